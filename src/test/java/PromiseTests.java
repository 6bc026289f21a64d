/** Each promise by hand: ordinary calls, the edges that the document names, wrong inputs. */
final class PromiseTests {
    private static final String WORDS =
            "word 0 0 0 1;word 0 1 0 2;word 1 1 0 1;word 1 1 1 3;word 0 0 2 4;";
    private static final String LINES = "line 0 3 1;line 2 4 0;line 1 5 0;line 3 6 2;";
    // By form 0 the paper is law in dialect 0, and not in dialect 1, where word 1 parts.
    private static final String SAMPLE = WORDS + "form ab;form aabb;metre c 5;" + LINES + "stock 4 7 0;stock 2 1 1;";
    private static final int FAR = Integer.MAX_VALUE;
    private static final int LOW = Integer.MIN_VALUE;

    private static RhymeLaw sample() {
        return Check.told(SAMPLE);
    }

    private static void newObject() {
        RhymeLaw x = new RhymeLaw();
        for (int what = 0; what < 5; what++) {
            Check.due("new: count " + what, x.count(what), 0);
        }
        Check.due("new: trace", x.trace(), 0);
        Check.due("new: word", x.word(0, 0), -1);
        Check.due("new: form", x.form(0, 0), -1);
        Check.due("new: line", x.line(0, 0), -1);
        Check.due("new: stock", x.stock(0, 0), -1);
        Check.due("new: take", x.take(0), -1);
        Check.due("new: law", x.law(0, 0), -1);
        Check.due("new: back", x.back(0), -2);
        Check.due("new: back", x.back(1), -2);
        for (int letter = 0; letter < 8; letter++) {
            Check.due("new: metre", x.metre(letter, 0), 0);
        }
        Check.due("new: keep", x.keep(0), 0);
        Check.due("new: back of an empty paper", x.back(0), 0);
        Check.due("new: read", x.read(), 0);
        Check.due("BAD", RhymeLaw.BAD, -1);
        Check.due("STATE", RhymeLaw.STATE, -2);
        Check.due("FULL", RhymeLaw.FULL, -3);
        Check.due("NONE", RhymeLaw.NONE, -9);
        Check.due("NO", RhymeLaw.NO, -1000000);
    }

    private static void type() {
        RhymeLaw x = new RhymeLaw();
        Check.due("type 0 bytes", x.type(0, 0), -1);
        Check.due("type 9 bytes", x.type(0, 9), -1);
        Check.due("type", x.type(0, FAR), -1);
        Check.due("type", x.type(0, LOW), -1);
        Check.due("type", x.type(-1L, -1), -1);
        Check.due("type left nothing", x.count(4), 0);
        // Just the lowest bytes count, the highest of them first.
        Check.due("type 'form'", x.type(Check.packed("xxxxform"), 4), 4);
        Check.due("type ' a;'", x.type(Check.packed("zzzzz a;"), 3), 7);
        Check.due("read what was typed", x.read(), 1);
        Check.due("its letter", x.form(0, 0), 0);
        for (int k = 1; k <= 62; k++) {
            Check.due("type 8", x.type(Check.packed("        "), 8), 8 * k);
        }
        Check.due("type beyond 500", x.type(0, 5), -3);
        Check.due("type beyond 500, and wrong", x.type(0, 9), -1);
        Check.due("type up to 500", x.type(Check.packed("    "), 4), 500);
        Check.due("type behind 500", x.type(32, 1), -3);
        Check.due("500 stay", x.count(4), 500);
        Check.due("500 blanks", x.read(), 0);
        Check.due("none is left", x.count(4), 0);
        Check.due("type anew", x.type(32, 1), 1);
    }

    private static void clear() {
        RhymeLaw x = new RhymeLaw();
        Check.due("clear of nothing", x.clear(), 0);
        Check.type(x, "line");
        Check.due("clear", x.clear(), 4);
        Check.due("clear again", x.clear(), 0);
        Check.due("count", x.count(4), 0);
        Check.due("read of a cleared text", x.read(), 0);
        RhymeLaw y = sample();
        Check.type(y, "x");
        Check.due("clear", y.clear(), 1);
        Check.due("clear leaves the words", y.count(0), 5);
    }

    private static void fault(String text, int place) {
        RhymeLaw x = sample();
        Check.due("keep", x.keep(0), 4);
        Check.due("rate", x.rate(0, 0), 3);
        Check.due("metre", x.metre(0, 7), 0);
        Check.type(x, text);
        Check.due("read of '" + text + "'", x.read(), -10 - place);
        Check.due("the text stays", x.count(4), text.length());
        Check.due("words stay", x.count(0), 5);
        Check.due("sounds stay", x.word(1, 1), 1);
        Check.due("forms stay", x.count(1), 2);
        Check.due("letters stay", x.form(1, 1), 0);
        Check.due("lines stay", x.count(2), 4);
        Check.due("the line stays", x.line(3, 2), 2);
        Check.due("the stock stays", x.count(3), 2);
        Check.due("the stock's line stays", x.stock(1, 2), 1);
        Check.due("the metre stays", x.metre(0, 7), 7);
        Check.due("the image stays", x.back(0), 4);
        Check.due("the trace stays", x.trace(), 1);
        Check.due("read again", x.read(), -10 - place);
    }

    private static void items(String text, int items) {
        RhymeLaw x = new RhymeLaw();
        Check.type(x, text);
        Check.due("read of '" + text + "'", x.read(), items);
        Check.due("the text is empty then", x.count(4), 0);
    }

    private static void readFaults() {
        fault(";", 0);
        fault("  ;", 2);
        fault("words 0 0 0 1;", 0);
        fault("wor 0 0 0 1;", 0);
        fault("word0 0 0 0;", 10);
        fault("word 26 0 0 1;", 5);
        fault("word 0 26 0 1;", 7);
        fault("word 0 0 10 1;", 9);
        fault("word 0 0 0 5;", 11);
        fault("word 0 0 0 0;", 11);
        fault("word 0 0 0 1", 12);
        fault("word 0 0 0 1  ", 14);
        fault("word 0 0 0;", 10);
        fault("word 0 0 0 1 1;", 13);
        fault("word 100 0 0 1;", 5);
        fault("word 00 0 0 1;", 5);
        fault("word 01 0 0 1;", 5);
        fault("word 99999999999999 0 0 1;", 5);
        fault("word 4294967296 0 0 1;", 5);
        fault("word a 0 0 1;", 5);
        fault("word -1 0 0 1;", 5);
        fault("word\t0 0 0 1;", 4);
        fault("word 0 0 0 1;\n", 13);
        fault("Word 0 0 0 1;", 0);
        fault("word 0 0 0 1;" + (char) 233, 13);
        fault("word 0 0 0 1;" + (char) 0, 13);
        fault("form ;", 5);
        fault("form 1;", 5);
        fault("form abi;", 5);
        fault("form aaaaaaaaa;", 5);
        fault("form a b;", 7);
        fault("forma;", 0);
        fault("form a", 6);
        fault("form a;form b;form c;", 14);
        fault("form a;form b;form", 14);
        fault("metre i 1;", 6);
        fault("metre ab 1;", 6);
        fault("metre 1 1;", 6);
        fault("metre a 21;", 8);
        fault("metre a 01;", 8);
        fault("metre a;", 7);
        fault("metre a 1", 9);
        fault("line 0 0 0;", 5);
        fault("stock 0 0 0;", 6);
        fault("line 0 0 0;word 0 0 0 1;", 5);
        fault("word 0 0 0 1;line 1 0 0;", 18);
        fault("word 0 0 0 1;line 0 10 0;", 20);
        fault("word 0 0 0 1;line 0 0 17;", 22);
        fault("word 0 0 0 1;stock 1 0 0;", 19);
        fault("word 0 0 0 1;stock 0 10 0;", 21);
        fault("word 0 0 0 1;stock 0 0 17;", 23);
        fault("word 0 0 0 1;stock 0 0 0 word", 25);
        fault(Check.times("word 0 0 0 1;", 17), 208);
        fault("word 0 0 0 1;" + Check.times("line 0 0 0;", 9), 101);
        fault("word 0 0 0 1;" + Check.times("stock 0 0 0;", 7), 85);
        fault("word 0 0 0 1;line 0 0 0$", 23);
    }

    private static void read() {
        items("", 0);
        items("   ", 0);
        items("word 25 25 9 4;", 1);
        items("word0 0 0 1;", 1);
        items("word 0  25 0 1 ;  form  abcdefgh ;", 2);
        items("form b;", 1);
        items("metre a20;metre a0;metre h 1;", 3);
        items("metre a 1;metre a 2;", 2);
        items(Check.times("word 0 0 0 1;", 16) + Check.times("line 15 9 16;", 8) + Check.times("stock 15 9 16;", 6), 30);
        readFaults();
        RhymeLaw x = sample();
        Check.due("metre of the text", x.metre(2, 5), 5);
        Check.due("metre", x.metre(7, 9), 0);
        Check.due("rate", x.rate(0, 0), 3);
        Check.due("keep", x.keep(1), 4);
        Check.type(x, "word 3 4 5 2;form h;metre b 1;metre b 2;stock 0 1 2;");
        Check.due("read anew", x.read(), 5);
        Check.due("words anew", x.count(0), 1);
        Check.due("forms anew", x.count(1), 1);
        Check.due("lines anew", x.count(2), 0);
        Check.due("stock anew", x.count(3), 1);
        Check.due("no text", x.count(4), 0);
        Check.due("metre anew: any", x.metre(2, 0), 0);
        Check.due("metre anew: any", x.metre(7, 0), 0);
        Check.due("metre told again: what is later", x.metre(1, 0), 2);
        Check.due("images are gone", x.back(1), -2);
        Check.due("the trace goes on", x.trace(), 1);
        Check.due("read of nothing", x.read(), 0);
        Check.due("nothing at all", x.count(0) + x.count(1) + x.count(3), 0);
        RhymeLaw y = new RhymeLaw();
        Check.due("metre", y.metre(4, 4), 0);
        Check.type(y, "metre e 3;metre e 50;");
        Check.due("fault", y.read(), -28);
        Check.due("the metre stays", y.metre(4, 4), 4);
        Check.due("clear", y.clear(), 21);
        Check.type(y, "metre e 3;");
        Check.due("read", y.read(), 1);
        Check.due("the metre is told", y.metre(4, 4), 3);
    }

    private static void wordsAndForms() {
        RhymeLaw x = Check.told("word 1 2 3 4;word 25 24 9 1;form hgf;form abcdefgh;");
        int[] first = {1, 2, 3, 4};
        int[] second = {25, 24, 9, 1};
        for (int what = 0; what < 4; what++) {
            Check.due("word 0 " + what, x.word(0, what), first[what]);
            Check.due("word 1 " + what, x.word(1, what), second[what]);
        }
        for (int wrong : new int[] {-1, 4, FAR, LOW}) {
            Check.due("word 0, " + wrong, x.word(0, wrong), -1);
        }
        for (int wrong : new int[] {-1, 2, 16, FAR, LOW}) {
            Check.due("word " + wrong, x.word(wrong, 0), -1);
            Check.due("form " + wrong, x.form(wrong, 0), -1);
        }
        int[] letters = {7, 6, 5, 7, 6, 5};
        for (int i = 0; i < 6; i++) {
            Check.due("form 0 " + i, x.form(0, i), letters[i]);
            Check.due("form 1 " + i, x.form(1, i), i);
        }
        Check.due("form 1 8", x.form(1, 8), 0);
        Check.due("form 0 99", x.form(0, 99), 7);
        Check.due("form 1 99", x.form(1, 99), 3);
        for (int wrong : new int[] {-1, 100, FAR, LOW}) {
            Check.due("form 0, " + wrong, x.form(0, wrong), -1);
        }
    }

    private static void metre() {
        RhymeLaw x = sample();
        Check.due("metre 0", x.metre(0, 20), 0);
        Check.due("metre 0", x.metre(0, 1), 20);
        Check.due("metre 7", x.metre(7, 3), 0);
        for (int wrong : new int[] {-1, 8, FAR, LOW}) {
            Check.due("metre of " + wrong, x.metre(wrong, 0), -1);
        }
        for (int wrong : new int[] {-1, 21, FAR, LOW}) {
            Check.due("metre to " + wrong, x.metre(0, wrong), -1);
        }
        Check.due("metre stays", x.metre(0, 0), 1);
        Check.due("metre stays", x.metre(7, 0), 3);
        Check.due("law without", x.law(0, 0), 1);
        // Lines 0 and 2 have 1 + 1 and 0 + 2 syllables.
        x.metre(0, 2);
        Check.due("law by a metre that all have", x.law(0, 0), 1);
        x.metre(0, 3);
        Check.due("no law by another", x.law(0, 0), 0);
        Check.due("all of that letter fall", x.bound(0, 0), 80);
    }

    private static void linesAndStock() {
        RhymeLaw x = Check.told("word 1 1 1 1;word 2 2 2 2;line 1 9 16;line 0 2 0;stock 1 0 3;stock 0 9 16;");
        int[][] lines = {{1, 9, 16}, {0, 2, 0}};
        int[][] stock = {{1, 0, 3}, {0, 9, 16}};
        for (int i = 0; i < 2; i++) {
            for (int what = 0; what < 3; what++) {
                Check.due("line " + i + " " + what, x.line(i, what), lines[i][what]);
                Check.due("stock " + i + " " + what, x.stock(i, what), stock[i][what]);
            }
        }
        for (int wrong : new int[] {-1, 3, FAR, LOW}) {
            Check.due("line 0, " + wrong, x.line(0, wrong), -1);
            Check.due("stock 0, " + wrong, x.stock(0, wrong), -1);
        }
        for (int wrong : new int[] {-1, 2, 8, FAR, LOW}) {
            Check.due("line " + wrong, x.line(wrong, 0), -1);
            Check.due("stock " + wrong, x.stock(wrong, 0), -1);
        }
    }

    private static void order(RhymeLaw x, int... words) {
        Check.due("lines", x.count(2), words.length);
        for (int i = 0; i < words.length; i++) {
            Check.due("word of line " + i, x.line(i, 0), words[i]);
        }
    }

    private static void putChangeTake() {
        RhymeLaw x = sample();
        Check.due("put behind all", x.put(4, 4, 9, 16), 5);
        Check.due("put ahead of all", x.put(0, 1, 0, 0), 6);
        Check.due("put between", x.put(2, 3, 8, 7), 7);
        order(x, 1, 0, 3, 2, 1, 3, 4);
        Check.due("thing", x.line(2, 1), 8);
        Check.due("before", x.line(2, 2), 7);
        Check.due("thing of the next", x.line(3, 1), 4);
        Check.due("before of the last", x.line(6, 2), 16);
        int[][] wrong = {{-1, 0, 0, 0}, {8, 0, 0, 0}, {0, -1, 0, 0}, {0, 5, 0, 0}, {0, 0, -1, 0}, {0, 0, 10, 0},
            {0, 0, 0, -1}, {0, 0, 0, 17}, {FAR, 0, 0, 0}, {LOW, 0, 0, 0}, {0, FAR, 0, 0}, {0, 0, LOW, 0}, {0, 0, 0, FAR}};
        for (int[] w : wrong) {
            Check.due("put wrong", x.put(w[0], w[1], w[2], w[3]), -1);
        }
        Check.due("put an eighth", x.put(7, 0, 0, 0), 8);
        Check.due("put a ninth", x.put(8, 0, 0, 0), -3);
        Check.due("put a ninth", x.put(0, 0, 0, 0), -3);
        Check.due("put a wrong ninth", x.put(9, 0, 0, 0), -1);
        Check.due("put a ninth of no word", x.put(0, 5, 0, 0), -1);
        order(x, 1, 0, 3, 2, 1, 3, 4, 0);
        Check.due("change", x.change(7, 4), 0);
        Check.due("change to the same", x.change(7, 4), 4);
        Check.due("change no line", x.change(8, 0), -1);
        Check.due("change no line", x.change(-1, 0), -1);
        Check.due("change to no word", x.change(0, 5), -1);
        Check.due("change to no word", x.change(0, -1), -1);
        Check.due("take no line", x.take(8), -1);
        Check.due("take no line", x.take(-1), -1);
        Check.due("take no line", x.take(FAR), -1);
        Check.due("take the last", x.take(7), 7);
        Check.due("take the first", x.take(0), 6);
        Check.due("take between", x.take(1), 5);
        order(x, 0, 2, 1, 3, 4);
        Check.due("thing moves along", x.line(1, 1), 4);
        Check.due("before moves along", x.line(3, 2), 2);
        Check.due("the stock stays", x.count(3), 2);
    }

    private static void judged() {
        RhymeLaw x = sample();
        int[][] first = {{1, 1, 1, -9}, {1, 1, 1, -9}, {1, 0, 1, 0}, {1, 0, 1, 1}};
        int[][] second = {{1, 1, 0, -9}, {1, 1, 1, -9}, {0, 0, 0, -9}, {1, 0, 1, 1}};
        for (int i = 0; i < 4; i++) {
            for (int what = 0; what < 4; what++) {
                Check.due("judged 0 0 " + i + " " + what, x.judged(0, 0, i, what), first[i][what]);
                Check.due("judged 0 1 " + i + " " + what, x.judged(0, 1, i, what), second[i][what]);
            }
        }
        for (int wrong : new int[] {-1, 4, 8, FAR, LOW}) {
            Check.due("judged line " + wrong, x.judged(0, 0, wrong, 0), -1);
            Check.due("judged what " + wrong, x.judged(0, 0, 0, wrong), -1);
            Check.due("judged form " + wrong, x.judged(wrong, 0, 0, 0), -1);
            Check.due("judged dialect " + wrong, x.judged(0, wrong, 0, 0), -1);
        }
        Check.due("judged form 2", x.judged(2, 0, 0, 0), -1);
        Check.due("judged dialect 2", x.judged(0, 2, 0, 0), -1);
        // The same word is no rhyme; what falls is no anchor; the nearest that stands is.
        RhymeLaw y = Check.told("word 0 0 0 1;word 0 0 0 1;word 0 0 0 2;word 1 1 0 1;form a;metre a 1;"
                + "line 2 0 0;line 0 0 0;line 0 0 0;line 3 0 0;line 1 0 0;line 2 0 0;line 0 0 0;");
        int[] stands = {0, 1, 0, 0, 1, 0, 1};
        int[] anchors = {-9, -9, -9, -9, 1, -9, 4};
        for (int i = 0; i < 7; i++) {
            Check.due("stands " + i, y.judged(0, 0, i, 0), stands[i]);
            Check.due("opens " + i, y.judged(0, 0, i, 1), i == 1 ? 1 : 0);
            Check.due("binds " + i, y.judged(0, 0, i, 2), stands[i]);
            Check.due("anchor " + i, y.judged(0, 0, i, 3), anchors[i]);
        }
    }

    private static void noView(RhymeLaw x, int f, int d) {
        String view = " by " + f + " in " + d;
        Check.due("law" + view, x.law(f, d), -1);
        Check.due("empty" + view, x.empty(f, d), -1);
        Check.due("bound" + view, x.bound(f, d), -1);
        Check.due("struck" + view, x.struck(f, d, 0), -1);
        Check.due("key" + view, x.key(f, d), -1);
        Check.due("mended" + view, x.mended(f, d, -1), -1);
        Check.due("shortest" + view, x.shortest(f, d, 0, -1), -1);
        Check.due("forged" + view, x.forged(f, d, 0), -1);
        Check.due("burnt" + view, x.burnt(f, d, 0, -1), -1);
    }

    private static void lawEmptyBound() {
        RhymeLaw x = sample();
        Check.due("law", x.law(0, 0), 1);
        Check.due("law in the other dialect", x.law(0, 1), 0);
        Check.due("law by the other form", x.law(1, 0), 0);
        Check.due("empty", x.empty(0, 0), -9);
        Check.due("empty", x.empty(0, 1), 0);
        Check.due("bound", x.bound(0, 0), 120);
        Check.due("bound", x.bound(0, 1), 80);
        Check.due("bound", x.bound(1, 0), 0);
        Check.due("bound", x.bound(1, 1), 96);
        for (int wrong : new int[] {-1, 2, FAR, LOW}) {
            noView(x, wrong, 0);
            noView(x, 0, wrong);
        }
        x.change(3, 0);
        Check.due("empty behind a change", x.empty(0, 0), 1);
        x.put(4, 1, 3, 0);
        Check.due("one thing twice", x.bound(0, 0), 40);
        RhymeLaw y = Check.told("word 0 0 0 1;form a;");
        Check.due("no lines: law", y.law(0, 0), 0);
        Check.due("no lines: empty", y.empty(0, 0), -9);
        Check.due("no lines: bound", y.bound(0, 0), 0);
        Check.due("no lines: struck", y.struck(0, 0, -1), 0);
        y.put(0, 0, 9, 0);
        Check.due("one line: law", y.law(0, 0), 0);
        Check.due("one line: empty", y.empty(0, 0), 0);
        noView(y, 1, 0);
    }

    private static void struckKey() {
        RhymeLaw x = sample();
        int[] left = {15, 10, 5, 0, 10, 10, 0, 0, 5, 0, 5, 0, 0, 0, 0, 0};
        for (int set = 0; set < 16; set++) {
            Check.due("struck " + set, x.struck(0, 0, set), left[set]);
        }
        Check.due("struck lines that there are not", x.struck(0, 0, -16), 15);
        Check.due("struck all", x.struck(0, 0, -1), 0);
        Check.due("struck", x.struck(0, 1, 0), 10);
        Check.due("struck one that binds nothing", x.struck(0, 1, 5), 10);
        Check.due("key: of several the least", x.key(0, 0), 0);
        Check.due("key", x.key(0, 1), 1);
        RhymeLaw y = Check.told(WORDS + "form abbbb;line 2 0 0;line 0 1 0;line 1 2 0;line 4 3 0;line 1 4 0;");
        Check.due("struck the opening", y.struck(0, 0, 2), 0);
        Check.due("struck the second", y.struck(0, 0, 4), 0);
        Check.due("struck the third", y.struck(0, 0, 8), 6);
        Check.due("struck the last", y.struck(0, 0, 16), 14);
        Check.due("key", y.key(0, 0), 1);
        RhymeLaw none = Check.told("form a;");
        Check.due("key of no lines", none.key(0, 0), -9);
    }

    private static void mended() {
        RhymeLaw x = sample();
        Check.due("mended: nothing", x.mended(0, 0, -1), 0);
        order(x, x.mended(0, 0, 0), x.mended(0, 0, 1), x.mended(0, 0, 2), x.mended(0, 0, 3));
        // In dialect 1 word 0 sounds 0, words 1 and 2 sound 1: line 0 becomes 2, line 2 stays 1.
        Check.due("mended: one", x.mended(0, 1, -1), 1);
        Check.due("mended: line 0", x.mended(0, 1, 0), 2);
        Check.due("mended: line 1", x.mended(0, 1, 1), 2);
        Check.due("mended: line 2", x.mended(0, 1, 2), 1);
        Check.due("mended: line 3", x.mended(0, 1, 3), 3);
        Check.due("mended changes nothing", x.line(0, 0), 0);
        for (int wrong : new int[] {-2, 4, FAR, LOW}) {
            Check.due("mended " + wrong, x.mended(0, 0, wrong), -1);
        }
        x.metre(0, 5);
        Check.due("no mending", x.mended(0, 0, -1), -9);
        Check.due("no mending of a line", x.mended(0, 0, 3), -9);
        Check.due("no mending of no line", x.mended(0, 0, 4), -1);
        x.metre(0, 0);
        x.take(3);
        Check.due("a line alone", x.mended(0, 0, -1), -9);
        // The rest of the row decides: 1, 0, 1 is two changes, and so is 0, 1, 0, ahead of it.
        RhymeLaw y = Check.told("word 0 0 0 1;word 0 0 0 1;word 1 0 0 1;form a;line 2 0 0;line 2 0 0;line 0 0 0;");
        Check.due("two changed", y.mended(0, 0, -1), 2);
        Check.due("first", y.mended(0, 0, 0), 0);
        Check.due("second", y.mended(0, 0, 1), 1);
        Check.due("third", y.mended(0, 0, 2), 0);
        // Eight lines of one word, sixteen words of one meaning and sound: each second one is changed.
        RhymeLaw z = Check.told(Check.times("word 9 9 9 1;", 16) + "form a;" + Check.times("line 5 0 0;", 8));
        Check.due("every second", z.mended(0, 1, -1), 4);
        for (int i = 0; i < 8; i++) {
            Check.due("row " + i, z.mended(0, 1, i), i % 2 == 0 ? 0 : 5);
        }
        RhymeLaw none = Check.told("word 0 0 0 1;form a;");
        Check.due("no lines", none.mended(0, 0, -1), -9);
        Check.due("no line 0", none.mended(0, 0, 0), -1);
    }

    private static void shortest() {
        RhymeLaw x = Check.told(WORDS + "form a;form abab;line 0 0 0;"
                + "stock 3 1 0;stock 0 2 0;stock 1 3 0;stock 2 4 0;stock 4 5 0;stock 0 6 0;");
        Check.due("any", x.shortest(0, 0, 0, -1), 2);
        Check.due("any, first", x.shortest(0, 0, 0, 0), 0);
        Check.due("any, second", x.shortest(0, 0, 0, 1), 3);
        Check.due("any, third", x.shortest(0, 0, 0, 2), -5);
        Check.due("any, far", x.shortest(0, 0, 0, FAR), -5);
        Check.due("two things", x.shortest(0, 0, 36, -1), 2);
        Check.due("two things, first", x.shortest(0, 0, 36, 0), 1);
        Check.due("two things, second", x.shortest(0, 0, 36, 1), 4);
        // Stock 1 and 5 have the same word: one must stand between them.
        Check.due("one between", x.shortest(0, 0, 68, -1), 3);
        Check.due("one between, first", x.shortest(0, 0, 68, 0), 1);
        Check.due("one between, second", x.shortest(0, 0, 68, 1), 2);
        Check.due("one between, third", x.shortest(0, 0, 68, 2), 5);
        Check.due("two rhymes can't meet", x.shortest(0, 0, 6, -1), -9);
        Check.due("no such row, a line of it", x.shortest(0, 0, 6, 1), -9);
        Check.due("abab", x.shortest(1, 0, 6, -1), 4);
        int[] row = {0, 1, 3, 2};
        for (int i = 0; i < 4; i++) {
            Check.due("abab " + i, x.shortest(1, 0, 6, i), row[i]);
        }
        Check.due("a thing that none has", x.shortest(0, 0, 128, -1), -9);
        for (int wrong : new int[] {-1, 1024, FAR, LOW}) {
            Check.due("things " + wrong, x.shortest(0, 0, wrong, -1), -1);
        }
        Check.due("1023 is as told", x.shortest(0, 0, 1023, -1), -9);
        Check.due("i below -1", x.shortest(0, 0, 0, -2), -1);
        Check.due("i far below", x.shortest(0, 0, 0, LOW), -1);
        x.metre(0, 1);
        Check.due("by a metre", x.shortest(0, 0, 0, -1), -9);
        RhymeLaw none = Check.told("word 0 0 0 1;form a;line 0 0 0;");
        Check.due("no stock", none.shortest(0, 0, 0, -1), -9);
        Check.due("no stock", none.shortest(0, 0, 0, 0), -9);
    }

    private static void both() {
        RhymeLaw x = Check.told("word 0 0 0 1;word 0 1 0 1;form ab;form aabb;"
                + "line 0 0 0;line 1 0 0;line 1 0 0;line 0 0 0;");
        Check.due("both", x.both(0), 1);
        Check.due("both in the other dialect", x.both(1), 0);
        Check.due("only by form 0", sample().both(0), 0);
        for (int wrong : new int[] {-1, 2, FAR, LOW}) {
            Check.due("both in " + wrong, x.both(wrong), -1);
        }
        RhymeLaw one = Check.told("word 0 0 0 1;word 0 1 0 1;form a;line 0 0 0;line 1 0 0;");
        Check.due("one form", one.both(0), -1);
        RhymeLaw other = Check.told("word 0 0 0 1;word 0 1 0 1;form ab;form a;line 0 0 0;line 1 0 0;");
        Check.due("only by form 1", other.both(0), 0);
    }

    private static void parting() {
        RhymeLaw x = sample();
        Check.due("parting", x.parting(0), 1);
        Check.due("the sounds stay", x.word(1, 1), 1);
        Check.due("law in dialect 1 stays so", x.law(0, 1), 0);
        Check.due("no law in dialect 0", x.parting(1), -9);
        for (int wrong : new int[] {-1, 2, FAR, LOW}) {
            Check.due("parting " + wrong, x.parting(wrong), -1);
        }
        x.change(2, 4);
        Check.due("law in both dialects", x.parting(0), -9);
        RhymeLaw two = Check.told("word 1 1 0 1;word 1 2 0 1;word 1 3 0 1;form a;line 0 0 0;line 1 0 0;line 2 0 0;");
        Check.due("two words part", two.parting(0), -9);
        two.take(2);
        Check.due("one of two", two.parting(0), 1);
        RhymeLaw least = Check.told("word 1 2 0 1;word 2 1 0 1;word 2 2 0 1;form a;line 2 0 0;line 1 0 0;");
        Check.due("another word", least.parting(0), 1);
        RhymeLaw first = Check.told("word 5 6 0 1;word 5 7 0 1;word 5 5 0 1;form a;"
                + "line 1 0 0;line 2 0 0;line 0 0 0;line 2 0 0;");
        Check.due("both of them part", first.parting(0), -9);
        first.take(0);
        first.take(0);
        Check.due("the one used", first.parting(0), 0);
        RhymeLaw none = Check.told("form a;");
        Check.due("no lines", none.parting(0), -9);
    }

    private static void forged() {
        RhymeLaw x = sample();
        // Stock 1 (a word of the other sound) ahead of all takes line 0's letter and parts it from line 2.
        Check.due("forged 0", x.forged(0, 0, 0), 10);
        RhymeLaw y = Check.told(WORDS + "form a;line 0 0 0;line 1 0 0;line 2 0 0;stock 4 0 0;stock 1 0 0;stock 3 0 0;");
        Check.due("ahead of the opening", y.forged(0, 0, 0), 2);
        Check.due("the same word ahead", y.forged(0, 0, 1), 2);
        Check.due("one that does not bind", y.forged(0, 0, 2), -2);
        y.put(2, 4, 0, 0);
        Check.due("the same word just ahead", y.forged(0, 0, 2), 2);
        for (int wrong : new int[] {-1, 4, FAR, LOW}) {
            Check.due("forged " + wrong, y.forged(0, 0, wrong), -1);
        }
        for (int lines = 5; lines <= 8; lines++) {
            y.put(lines - 1, 2, 0, 0);
        }
        Check.due("eight", y.count(2), 8);
        Check.due("no room", y.forged(0, 0, 0), -3);
        Check.due("no room, and it does not bind", y.forged(0, 0, 7), -2);
        Check.due("no room, and no line", y.forged(0, 0, 8), -1);
        RhymeLaw none = Check.told(WORDS + "form a;line 0 0 0;line 1 0 0;");
        Check.due("no stock", none.forged(0, 0, 0), -9);
        RhymeLaw vain = Check.told(WORDS + "form a;line 0 0 0;line 1 0 0;stock 4 0 0;");
        Check.due("in vain", vain.forged(0, 0, 1), -9);
        Check.due("the paper stays", vain.count(2), 2);
        // Behind the line: it pushes the one that it anchors on to another letter.
        RhymeLaw behind = Check.told(WORDS + "form ab;line 2 0 0;line 0 0 0;line 3 0 0;line 1 0 0;stock 4 0 0;");
        Check.due("behind", behind.forged(0, 0, 0), 10);
        // The stock's line falls wherever it is, but what comes behind it has other letters.
        RhymeLaw pushed = Check.told("word 0 0 0 1;word 0 0 0 1;word 0 0 0 2;form abb;metre b 1;"
                + "line 2 0 0;line 0 0 0;line 1 0 0;stock 2 0 0;");
        Check.due("pushed off its anchor", pushed.forged(0, 0, 1), 0);
        Check.due("pushed to another anchor", pushed.forged(0, 0, 2), -9);
    }

    private static void burnt() {
        RhymeLaw x = sample();
        Check.due("nothing burnt", x.burnt(0, 0, 0, -1), 1);
        Check.due("nothing burnt, a line", x.burnt(0, 0, 0, 3), 1);
        Check.due("nothing burnt, no law", x.burnt(0, 1, 0, -1), 0);
        Check.due("nothing burnt, no law, a line", x.burnt(0, 1, 0, 3), 0);
        // Line 2 rhymes with word 0: words 1 and 4.
        Check.due("one burnt", x.burnt(0, 0, 4, -1), 2);
        Check.due("one burnt, its words", x.burnt(0, 0, 4, 2), 2);
        Check.due("one burnt, another's", x.burnt(0, 0, 4, 1), 1);
        // Three words sound 0, two 1: 3 * 2 + 2 * 1 ways a letter.
        Check.due("one letter burnt", x.burnt(0, 0, 5, -1), 8);
        Check.due("all burnt", x.burnt(0, 0, 15, -1), 64);
        Check.due("all burnt, words", x.burnt(0, 0, -1, 0), 5);
        Check.due("those that there are not", x.burnt(0, 0, -16, -1), 1);
        for (int wrong : new int[] {-2, 4, 8, FAR, LOW}) {
            Check.due("burnt " + wrong, x.burnt(0, 0, 15, wrong), -1);
        }
        x.metre(0, 2);
        // Line 0 with 1 before: words of one syllable, 0 and 2; line 2 with none: word 1.
        Check.due("by a metre", x.burnt(0, 0, 5, -1), 1);
        Check.due("by a metre, in the other dialect", x.burnt(0, 1, 5, 0), 1);
        RhymeLaw full = Check.told(Check.times("word 9 9 9 1;", 16) + "form a;" + Check.times("line 5 0 0;", 8));
        Check.due("more ways than an int has", full.burnt(0, 0, 255, -1), 16L * 15 * 15 * 15 * 15 * 15 * 15 * 15);
        Check.due("any word", full.burnt(0, 0, 255, 7), 16);
        Check.due("the ends known", full.burnt(0, 0, 126, 7), 1);
        Check.due("beside one known", full.burnt(0, 0, 126, 6), 15);
        Check.due("between two known", full.burnt(0, 0, 170, 3), 15);
        RhymeLaw none = Check.told("word 0 0 0 1;form a;");
        Check.due("no lines", none.burnt(0, 0, 0, -1), 0);
        Check.due("no line 0", none.burnt(0, 0, 0, 0), -1);
    }

    private static void rateTrace() {
        RhymeLaw x = sample();
        // Line 3: word 3 (meaning 1, 3 syllables), thing 6, before 2.
        int[] rates = {6, 9, 8, 16, 12, 5};
        int[] tolls = {1, 11, 101, 1101, 10011, 100001};
        long trace = 0;
        for (int kind = 0; kind < 6; kind++) {
            Check.due("rate " + kind, x.rate(kind, 3), rates[kind]);
            trace += tolls[kind];
            Check.due("trace behind rate " + kind, x.trace(), trace);
        }
        for (int wrong : new int[] {-1, 6, FAR, LOW}) {
            Check.due("rate of kind " + wrong, x.rate(wrong, 0), -1000000);
        }
        for (int wrong : new int[] {-1, 4, 8, FAR, LOW}) {
            Check.due("rate of line " + wrong, x.rate(0, wrong), -1000000);
        }
        Check.due("the trace stays", x.trace(), trace);
        RhymeLaw y = Check.told("word 0 0 9 1;line 0 0 0;");
        Check.due("below 0", y.rate(5, 0), -9);
        Check.due("keep", y.keep(0), 1);
        Check.due("back", y.back(0), 1);
        Check.due("the trace goes on behind back", y.trace(), 100001);
    }

    private static void keepBack() {
        RhymeLaw x = sample();
        Check.due("none kept", x.back(0), -2);
        Check.due("keep 0", x.keep(0), 4);
        Check.due("none kept in 1", x.back(1), -2);
        x.change(0, 4);
        x.take(3);
        Check.due("keep 1", x.keep(1), 3);
        x.take(0);
        x.take(0);
        x.metre(0, 7);
        Check.due("back 0", x.back(0), 4);
        order(x, 0, 2, 1, 3);
        Check.due("thing", x.line(3, 1), 6);
        Check.due("before", x.line(3, 2), 2);
        Check.due("the metre is not kept", x.metre(0, 0), 7);
        Check.due("back 1", x.back(1), 3);
        order(x, 4, 2, 1);
        x.change(0, 1);
        x.put(0, 3, 3, 3);
        Check.due("back again", x.back(1), 3);
        order(x, 4, 2, 1);
        Check.due("kept over", x.keep(0), 3);
        Check.due("back", x.back(0), 3);
        for (int wrong : new int[] {-1, 2, 32, FAR, LOW}) {
            Check.due("keep " + wrong, x.keep(wrong), -1);
            Check.due("back " + wrong, x.back(wrong), -1);
        }
        x.clear();
        x.read();
        Check.due("images gone", x.back(0), -2);
        Check.due("images gone", x.back(1), -2);
    }

    private static void count() {
        RhymeLaw x = sample();
        Check.type(x, "abc");
        int[] counts = {5, 2, 4, 2, 3};
        for (int what = 0; what < 5; what++) {
            Check.due("count " + what, x.count(what), counts[what]);
        }
        for (int wrong : new int[] {-1, 5, FAR, LOW}) {
            Check.due("count " + wrong, x.count(wrong), -1);
        }
    }

    public static void main(String[] args) {
        newObject();
        type();
        clear();
        read();
        wordsAndForms();
        metre();
        linesAndStock();
        putChangeTake();
        judged();
        lawEmptyBound();
        struckKey();
        mended();
        shortest();
        both();
        parting();
        forged();
        burnt();
        rateTrace();
        keepBack();
        count();
        Check.end("PromiseTests");
    }
}

import java.util.function.IntToLongFunction;
import java.util.function.Supplier;

/** Each sentence that names a boundary of a new object, of words, forms, metres and papers: promises 1, 5 to 12. */
final class PaperBoundaryTests {
    private static final int FAR = Integer.MAX_VALUE;
    private static final int LOW = Integer.MIN_VALUE;
    private static final String FULL = mostOfAll();

    /** 16 words, 2 forms, 8 lines, 6 of the stock: each of them differs from the others. */
    private static String mostOfAll() {
        StringBuilder text = new StringBuilder();
        for (int w = 0; w < 16; w++) {
            text.append("word ").append(w).append(' ').append(25 - w).append(' ').append(w % 10).append(' ');
            text.append(1 + w % 4).append(';');
        }
        text.append("form abcdefgh;form hg;");
        for (int i = 0; i < 8; i++) {
            text.append("line ").append(15 - i).append(' ').append(i).append(' ').append(16 - i).append(';');
        }
        for (int i = 0; i < 6; i++) {
            text.append("stock ").append(i).append(' ').append(9 - i).append(' ').append(11 + i).append(';');
        }
        return text.toString();
    }

    private static RhymeLaw full() {
        return Check.told(FULL);
    }

    /** Three lines of 16 words, an image, a trace, a metre, and some text. */
    private static RhymeLaw some() {
        RhymeLaw x = full();
        x.keep(0);
        x.rate(3, 7);
        x.metre(2, 5);
        while (x.count(2) > 3) {
            x.take(3);
        }
        Check.type(x, "form c;");
        return x;
    }

    private static RhymeLaw withoutLines() {
        RhymeLaw x = some();
        while (x.count(2) > 0) {
            x.take(0);
        }
        return x;
    }

    private static void bad(String call, IntToLongFunction ask, int... wrong) {
        for (int n : wrong) {
            Check.due(call + " " + n, ask.applyAsLong(n), -1);
        }
    }

    private static void things(RhymeLaw x, int... things) {
        Check.due("how many", x.count(2), things.length);
        for (int i = 0; i < things.length; i++) {
            Check.due("thing of line " + i, x.line(i, 1), things[i]);
            Check.due("word of line " + i, x.line(i, 0), 15 - things[i]);
            Check.due("before of line " + i, x.line(i, 2), 16 - things[i]);
        }
        Check.due("no line behind", x.line(things.length, 0), -1);
    }

    // ---- promise 1, and what an object is

    private static void newObject() {
        RhymeLaw x = new RhymeLaw();
        for (int what = 0; what < 5; what++) {
            Check.due("count " + what, x.count(what), 0);
        }
        for (int letter = 0; letter < 8; letter++) {
            Check.due("metre " + letter, x.metre(letter, 0), 0);
        }
        Check.due("trace", x.trace(), 0);
        Check.due("no image", x.back(0), -2);
        Check.due("no image", x.back(1), -2);
        Check.due("no word", x.word(0, 0), -1);
        Check.due("no form", x.form(0, 0), -1);
        Check.due("no line", x.line(0, 0), -1);
        Check.due("no stock", x.stock(0, 0), -1);
        Check.due("no text", x.clear(), 0);
    }

    private static void newObjectRefuses() {
        RhymeLaw x = new RhymeLaw();
        Check.due("put", x.put(0, 0, 0, 0), -1);
        Check.due("change", x.change(0, 0), -1);
        Check.due("take", x.take(0), -1);
        Check.due("judged", x.judged(0, 0, 0, 0), -1);
        Check.due("law", x.law(0, 0), -1);
        Check.due("empty", x.empty(0, 0), -1);
        Check.due("bound", x.bound(0, 0), -1);
        Check.due("struck", x.struck(0, 0, 0), -1);
        Check.due("key", x.key(0, 0), -1);
        Check.due("mended", x.mended(0, 0, -1), -1);
        Check.due("shortest", x.shortest(0, 0, 0, -1), -1);
        Check.due("both", x.both(0), -1);
        Check.due("parting", x.parting(0), -1);
        Check.due("forged", x.forged(0, 0, 0), -1);
        Check.due("burnt", x.burnt(0, 0, 0, -1), -1);
        Check.due("rate", x.rate(0, 0), -1000000);
        Check.due("trace", x.trace(), 0);
    }

    private static void newObjectKnowsNoOther() {
        RhymeLaw x = full();
        x.rate(0, 0);
        x.keep(0);
        RhymeLaw y = new RhymeLaw();
        Check.due("words", y.count(0), 0);
        Check.due("trace", y.trace(), 0);
        Check.due("image", y.back(0), -2);
        Check.due("the other's words", x.count(0), 16);
    }

    private static void fiveHundredTwelveCalls() {
        RhymeLaw x = new RhymeLaw();
        int calls = 0;
        for (String part : new String[] {"word 0 0", " 0 1;wor", "d 0 0 0 ", "1;form a", ";line 0 ", "0 0;line", " 1 9 0; "}) {
            x.type(Check.packed(part), 8);
            calls++;
        }
        Check.due("read", x.read(), 5);
        calls++;
        while (calls < Check.MOST_CALLS - 2) {
            Check.due("rate", x.rate(5, 1), 9);
            calls++;
        }
        Check.due("the 511th call", x.bound(0, 0), 513);
        Check.due("the 512th call", x.trace(), 100001L * (Check.MOST_CALLS - 10));
    }

    private static void constants() {
        Check.due("BAD", RhymeLaw.BAD, -1);
        Check.due("STATE", RhymeLaw.STATE, -2);
        Check.due("FULL", RhymeLaw.FULL, -3);
        Check.due("NONE", RhymeLaw.NONE, -9);
        Check.due("NO", RhymeLaw.NO, -1000000);
    }

    // ---- promise 5: word

    private static void wordOfSixteen() {
        RhymeLaw x = full();
        for (int w = 0; w < 16; w++) {
            Check.due("sound 0 of " + w, x.word(w, 0), w);
            Check.due("sound 1 of " + w, x.word(w, 1), 25 - w);
            Check.due("meaning of " + w, x.word(w, 2), w % 10);
            Check.due("syllables of " + w, x.word(w, 3), 1 + w % 4);
        }
        bad("no word", w -> x.word(w, 0), -1, 16, FAR, LOW);
        RhymeLaw one = Check.told("word 25 25 9 4;");
        Check.due("the only word", one.word(0, 1), 25);
        bad("no word", w -> one.word(w, 0), -1, 1, 15);
    }

    private static void wordsWhat() {
        RhymeLaw x = full();
        Check.due("what 0", x.word(7, 0), 7);
        Check.due("what 3", x.word(7, 3), 4);
        bad("what", what -> x.word(7, what), -1, 4, 5, FAR, LOW);
        Check.changesNothing("no such word", PaperBoundaryTests::some, y -> y.word(16, 0), -1);
        Check.changesNothing("nothing such of it", PaperBoundaryTests::some, y -> y.word(0, 4), -1);
    }

    // ---- promise 6: form

    private static void formOfTwo() {
        RhymeLaw x = full();
        Check.due("form 0", x.form(0, 0), 0);
        Check.due("form 1", x.form(1, 0), 7);
        bad("no form", f -> x.form(f, 0), -1, 2, FAR, LOW);
        RhymeLaw one = Check.told("form b;");
        Check.due("the only form", one.form(0, 0), 1);
        bad("no form", f -> one.form(f, 0), -1, 1);
        Check.changesNothing("no such form", PaperBoundaryTests::some, y -> y.form(2, 0), -1);
    }

    private static void formUpTo99() {
        RhymeLaw x = full();
        for (int i = 0; i <= 99; i++) {
            Check.due("letter " + i + " of eight", x.form(0, i), i % 8);
            Check.due("letter " + i + " of two", x.form(1, i), i % 2 == 0 ? 7 : 6);
        }
        bad("no line", i -> x.form(0, i), -1, 100, 101, FAR, LOW);
        Check.changesNothing("no such line", PaperBoundaryTests::some, y -> y.form(0, 100), -1);
        RhymeLaw three = Check.told("form abc;");
        Check.due("behind the last", three.form(0, 3), 0);
        Check.due("far behind it", three.form(0, 98), 2);
        Check.due("99", three.form(0, 99), 0);
    }

    // ---- promise 7: metre

    private static void metreOfEightLetters() {
        RhymeLaw x = new RhymeLaw();
        for (int letter = 0; letter < 8; letter++) {
            Check.due("at first", x.metre(letter, letter + 1), 0);
        }
        for (int letter = 0; letter < 8; letter++) {
            Check.due("what it was", x.metre(letter, 0), letter + 1);
        }
        bad("no letter", letter -> x.metre(letter, 1), -1, 8, FAR, LOW);
        Check.changesNothing("letter -1", PaperBoundaryTests::some, y -> y.metre(-1, 1), -1);
        Check.changesNothing("letter 8", PaperBoundaryTests::some, y -> y.metre(8, 1), -1);
    }

    private static void metreUpTo20() {
        RhymeLaw x = some();
        Check.due("to 20", x.metre(2, 20), 5);
        Check.due("to 0", x.metre(2, 0), 20);
        Check.due("to 0 again", x.metre(2, 0), 0);
        Check.due("to 1", x.metre(2, 1), 0);
        Check.due("it was 1", x.metre(2, 1), 1);
        for (int wrong : new int[] {-1, 21, FAR, LOW}) {
            Check.changesNothing("metre " + wrong, PaperBoundaryTests::some, y -> y.metre(2, wrong), -1);
        }
    }

    private static void metreWithoutForms() {
        RhymeLaw x = new RhymeLaw();
        Check.due("metre", x.metre(7, 20), 0);
        Check.due("what it was", x.metre(7, 0), 20);
    }

    // ---- promises 8, 9: line, stock

    private static void lineOfEight() {
        RhymeLaw x = full();
        things(x, 0, 1, 2, 3, 4, 5, 6, 7);
        bad("no line", i -> x.line(i, 0), -1, 8, 9, FAR, LOW);
        bad("what", what -> x.line(0, what), -1, 3, FAR, LOW);
        RhymeLaw none = withoutLines();
        bad("no line", i -> none.line(i, 0), -1, 0, 1);
        Check.changesNothing("no such line", PaperBoundaryTests::some, y -> y.line(3, 0), -1);
        Check.changesNothing("nothing such of it", PaperBoundaryTests::some, y -> y.line(0, 3), -1);
    }

    private static void stockOfSix() {
        RhymeLaw x = full();
        for (int i = 0; i < 6; i++) {
            Check.due("word of stock " + i, x.stock(i, 0), i);
            Check.due("thing of stock " + i, x.stock(i, 1), 9 - i);
            Check.due("before of stock " + i, x.stock(i, 2), 11 + i);
        }
        bad("no such one", i -> x.stock(i, 0), -1, 6, 7, FAR, LOW);
        bad("what", what -> x.stock(0, what), -1, 3, FAR, LOW);
        RhymeLaw none = Check.told("word 0 0 0 1;line 0 0 0;");
        bad("no stock", i -> none.stock(i, 0), -1, 0, 1);
        Check.changesNothing("no such one", PaperBoundaryTests::some, y -> y.stock(6, 0), -1);
    }

    // ---- promise 10: put

    private static void putAheadOfAnyLine() {
        for (int p = 0; p <= 3; p++) {
            RhymeLaw x = some();
            Check.due("put ahead of " + p, x.put(p, 6, 9, 7), 4);
            for (int i = 0; i < 4; i++) {
                Check.due("thing of " + i, x.line(i, 1), i == p ? 9 : i < p ? i : i - 1);
                Check.due("before of " + i, x.line(i, 2), i == p ? 7 : 16 - (i < p ? i : i - 1));
                Check.due("word of " + i, x.line(i, 0), i == p ? 6 : 15 - (i < p ? i : i - 1));
            }
        }
        for (int wrong : new int[] {-1, 4, 8, FAR, LOW}) {
            Check.changesNothing("put ahead of " + wrong, PaperBoundaryTests::some, x -> x.put(wrong, 0, 0, 0), -1);
        }
    }

    private static void putOnAnEmptyPaper() {
        RhymeLaw x = withoutLines();
        Check.due("put", x.put(0, 15, 0, 16), 1);
        things(x, 0);
        Check.changesNothing("put ahead of 1", PaperBoundaryTests::withoutLines, y -> y.put(1, 0, 0, 0), -1);
        Check.changesNothing("put ahead of -1", PaperBoundaryTests::withoutLines, y -> y.put(-1, 0, 0, 0), -1);
    }

    private static void putNumbers() {
        RhymeLaw x = some();
        Check.due("the least", x.put(3, 0, 0, 0), 4);
        Check.due("the greatest", x.put(4, 15, 9, 16), 5);
        Check.due("word", x.line(4, 0), 15);
        Check.due("thing", x.line(4, 1), 9);
        Check.due("before", x.line(4, 2), 16);
        for (int wrong : new int[] {-1, 16, FAR, LOW}) {
            Check.changesNothing("put word " + wrong, PaperBoundaryTests::some, y -> y.put(0, wrong, 0, 0), -1);
        }
        for (int wrong : new int[] {-1, 10, FAR, LOW}) {
            Check.changesNothing("put thing " + wrong, PaperBoundaryTests::some, y -> y.put(0, 0, wrong, 0), -1);
        }
        for (int wrong : new int[] {-1, 17, FAR, LOW}) {
            Check.changesNothing("put before " + wrong, PaperBoundaryTests::some, y -> y.put(0, 0, 0, wrong), -1);
        }
    }

    private static void putWithoutWords() {
        Check.changesNothing("put", RhymeLaw::new, x -> x.put(0, 0, 0, 0), -1);
        Supplier<RhymeLaw> one = () -> Check.told("word 0 0 0 1;");
        Check.changesNothing("put word 1 of one", one, x -> x.put(0, 1, 0, 0), -1);
        Check.due("put word 0 of one", one.get().put(0, 0, 0, 0), 1);
    }

    private static void putANinth() {
        RhymeLaw x = some();
        for (int lines = 4; lines <= 8; lines++) {
            Check.due("put", x.put(lines - 1, 16 - lines, lines - 1, 17 - lines), lines);
        }
        things(x, 0, 1, 2, 3, 4, 5, 6, 7);
        for (int p = 0; p <= 8; p++) {
            int ahead = p;
            Check.changesNothing("a ninth ahead of " + p, PaperBoundaryTests::full, y -> y.put(ahead, 0, 0, 0), -3);
        }
    }

    private static void putBadAheadOfFull() {
        Check.changesNothing("p", PaperBoundaryTests::full, x -> x.put(9, 0, 0, 0), -1);
        Check.changesNothing("p", PaperBoundaryTests::full, x -> x.put(-1, 0, 0, 0), -1);
        Check.changesNothing("word", PaperBoundaryTests::full, x -> x.put(8, 16, 0, 0), -1);
        Check.changesNothing("thing", PaperBoundaryTests::full, x -> x.put(8, 0, 10, 0), -1);
        Check.changesNothing("before", PaperBoundaryTests::full, x -> x.put(8, 0, 0, 17), -1);
    }

    // ---- promise 11: change

    private static void changeAnyLine() {
        for (int i = 0; i < 8; i++) {
            RhymeLaw x = full();
            Check.due("change", x.change(i, 3), 15 - i);
            Check.due("what it was", x.change(i, 3), 3);
            Check.due("back again", x.change(i, 15 - i), 3);
            things(x, 0, 1, 2, 3, 4, 5, 6, 7);
        }
        for (int wrong : new int[] {-1, 3, 8, FAR, LOW}) {
            Check.changesNothing("change of line " + wrong, PaperBoundaryTests::some, x -> x.change(wrong, 0), -1);
        }
        Check.changesNothing("of the ninth", PaperBoundaryTests::full, x -> x.change(8, 0), -1);
        Check.changesNothing("of none", PaperBoundaryTests::withoutLines, x -> x.change(0, 0), -1);
    }

    private static void changeToAnyWord() {
        RhymeLaw x = some();
        Check.due("to the first", x.change(0, 0), 15);
        Check.due("to the last", x.change(0, 15), 0);
        for (int wrong : new int[] {-1, 16, FAR, LOW}) {
            Check.changesNothing("change to word " + wrong, PaperBoundaryTests::some, y -> y.change(0, wrong), -1);
        }
        Supplier<RhymeLaw> one = () -> Check.told("word 0 0 0 1;line 0 0 0;");
        Check.changesNothing("change to word 1 of one", one, y -> y.change(0, 1), -1);
    }

    private static void changeToTheSame() {
        Check.changesNothing("the same", PaperBoundaryTests::some, x -> x.change(1, 14), 14);
    }

    // ---- promise 12: take

    private static void takeAnyLine() {
        RhymeLaw x = full();
        Check.due("the last", x.take(7), 7);
        things(x, 0, 1, 2, 3, 4, 5, 6);
        Check.due("the first", x.take(0), 6);
        things(x, 1, 2, 3, 4, 5, 6);
        Check.due("one between", x.take(2), 5);
        things(x, 1, 2, 4, 5, 6);
        Check.due("the last but one", x.take(3), 4);
        things(x, 1, 2, 4, 6);
        for (int wrong : new int[] {-1, 3, 7, 8, FAR, LOW}) {
            Check.changesNothing("take of " + wrong, PaperBoundaryTests::some, y -> y.take(wrong), -1);
        }
        Check.changesNothing("take of the ninth", PaperBoundaryTests::full, y -> y.take(8), -1);
    }

    private static void takeTheLastOne() {
        RhymeLaw x = some();
        Check.due("take", x.take(0), 2);
        Check.due("take", x.take(0), 1);
        Check.due("take the last one", x.take(0), 0);
        Check.due("no lines", x.count(2), 0);
        Check.changesNothing("take of none", PaperBoundaryTests::withoutLines, y -> y.take(0), -1);
        Check.due("put anew", x.put(0, 15, 0, 16), 1);
        things(x, 0);
    }

    private static void takeMakesRoom() {
        RhymeLaw x = full();
        Check.due("full", x.put(8, 0, 0, 0), -3);
        Check.due("take", x.take(3), 7);
        Check.due("room for one", x.put(3, 12, 3, 13), 8);
        things(x, 0, 1, 2, 3, 4, 5, 6, 7);
        Check.due("full again", x.put(8, 0, 0, 0), -3);
        Check.due("the stock stays", x.count(3), 6);
    }

    private static void newSentences() {
        Check.sentence("a new object: nothing at all", PaperBoundaryTests::newObject);
        Check.sentence("a new object: there is no such thing", PaperBoundaryTests::newObjectRefuses);
        Check.sentence("a new object: nothing of another one", PaperBoundaryTests::newObjectKnowsNoOther);
        Check.sentence("at most 512 calls", PaperBoundaryTests::fiveHundredTwelveCalls);
        Check.sentence("the constants", PaperBoundaryTests::constants);
    }

    private static void askedSentences() {
        Check.sentence("word: of a word; BAD", PaperBoundaryTests::wordOfSixteen);
        Check.sentence("word: 0, 1 sound, 2 meaning, 3 syllables; BAD", PaperBoundaryTests::wordsWhat);
        Check.sentence("form: a form; BAD", PaperBoundaryTests::formOfTwo);
        Check.sentence("form: line i (0 .. 99); BAD", PaperBoundaryTests::formUpTo99);
        Check.sentence("metre: a letter (0 .. 7); BAD", PaperBoundaryTests::metreOfEightLetters);
        Check.sentence("metre: n (0 .. 20); BAD", PaperBoundaryTests::metreUpTo20);
        Check.sentence("metre: of letters, whatever the forms", PaperBoundaryTests::metreWithoutForms);
        Check.sentence("line: 0 word, 1 thing, 2 before; BAD", PaperBoundaryTests::lineOfEight);
        Check.sentence("stock: 0 word, 1 thing, 2 before; BAD", PaperBoundaryTests::stockOfSix);
    }

    private static void changedSentences() {
        Check.sentence("put: ahead of line p (0 .. how many); BAD", PaperBoundaryTests::putAheadOfAnyLine);
        Check.sentence("put: on an empty paper", PaperBoundaryTests::putOnAnEmptyPaper);
        Check.sentence("put: a word, a thing 0 .. 9, before 0 .. 16; BAD", PaperBoundaryTests::putNumbers);
        Check.sentence("put: there is no such word; BAD", PaperBoundaryTests::putWithoutWords);
        Check.sentence("put: FULL", PaperBoundaryTests::putANinth);
        Check.sentence("put: BAD ahead of FULL", PaperBoundaryTests::putBadAheadOfFull);
        Check.sentence("change: a line; BAD", PaperBoundaryTests::changeAnyLine);
        Check.sentence("change: another word; BAD", PaperBoundaryTests::changeToAnyWord);
        Check.sentence("change: or the same", PaperBoundaryTests::changeToTheSame);
        Check.sentence("take: a line; BAD", PaperBoundaryTests::takeAnyLine);
        Check.sentence("take: how many there are then: none", PaperBoundaryTests::takeTheLastOne);
        Check.sentence("take: a full paper has room then", PaperBoundaryTests::takeMakesRoom);
    }

    public static void main(String[] args) {
        newSentences();
        askedSentences();
        changedSentences();
        Check.end("PaperBoundaryTests");
    }
}

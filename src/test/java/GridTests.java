/**
 * Each call with numbers at, just below and just beyond each bound, and far off, on papers from none to full: answered
 * as by the model, and where it is refused, nothing is changed.
 */
final class GridTests {
    private static final int FAR = Integer.MAX_VALUE;
    private static final int LOW = Integer.MIN_VALUE;
    private static final int[] TWO = {LOW, -1, 0, 1, 2, FAR};
    private static final int[] WHAT = {LOW, -1, 0, 1, 2, 3, 4, 5, FAR};
    private static final int[] LINES = {LOW, -2, -1, 0, 1, 2, 3, 4, 5, 7, 8, 9, FAR};
    private static final int[] SETS = {LOW, -9, -1, 0, 1, 2, 5, 15, 16, 255, 256, FAR};
    private static final int[] THINGS = {LOW, -1, 0, 1, 2, 8, 24, 512, 1023, 1024, FAR};
    private static final int[] LETTERS = {LOW, -1, 0, 1, 7, 8, FAR};
    private static final int[] METRES = {LOW, -1, 0, 1, 2, 20, 21, FAR};
    private static final int[] WORDS = {LOW, -1, 0, 1, 2, 3, 14, 15, 16, FAR};
    private static final int[] TENS = {LOW, -1, 0, 9, 10, FAR};
    private static final int[] BEFORE = {LOW, -1, 0, 16, 17, FAR};
    private static final int[] PIECES = {LOW, -1, 0, 1, 2, 3, 4, 5, 6, 7, 8, 9, FAR};

    private static final String FEW = "word 0 0 0 1;word 0 1 0 1;word 0 0 0 2;";
    private static final String STOCK = "stock 0 0 0;stock 1 9 0;stock 2 3 1;stock 2 4 0;stock 1 3 0;stock 0 4 0;";
    private static final String[] STATES = {
        "",
        "form a;",
        "form abcdefgh;form h;metre a 20;",
        Check.times("word 3 3 3 1;", 16),
        FEW + "form ab;" + STOCK,
        FEW + "form a;line 0 0 0;",
        FEW + "form a;form aa;line 0 9 0;line 1 0 0;stock 1 1 1;",
        FEW + "form ab;form aabb;metre b 2;line 0 3 1;line 2 4 0;line 1 5 1;line 1 6 1;" + STOCK,
        FEW + "form a;form abcd;line 0 1 0;line 1 2 0;line 0 3 0;line 2 4 0;line 0 5 0;line 1 6 0;line 2 7 0;" + STOCK,
        FEW + "form abc;form aab;" + Check.times("line 0 8 0;line 2 7 0;", 4) + STOCK,
        FEW + "form ba;form ab;" + Check.times("line 0 8 0;line 1 7 0;line 2 0 0;line 1 9 0;", 2) + STOCK,
        Check.times("word 1 2 3 4;", 16) + "form h;line 15 0 0;line 14 9 16;stock 15 9 16;"};

    private static String state = "";
    private static Pair pair;

    private static Pair made() {
        Pair p = new Pair();
        p.type(state);
        p.read();
        return p;
    }

    /** Calls that change nothing are asked of one object, as many as it may be asked. */
    private static Pair asked() {
        if (pair == null || pair.left() < 1) {
            pair = made();
        }
        return pair;
    }

    /** An object with something in each of its parts, for a single call that may change it. */
    private static Pair fresh() {
        Pair p = made();
        p.keep(1);
        p.take(0);
        p.metre(7, 5);
        p.rate(0, 0);
        p.type("form c;");
        return p;
    }

    private static void told() {
        for (int i : WORDS) {
            for (int what : WHAT) {
                asked().word(i, what);
                asked().line(i, what);
                asked().stock(i, what);
            }
        }
        for (int f : TWO) {
            for (int i = -1; i <= 101; i++) {
                asked().form(f, i);
            }
            asked().form(f, LOW);
            asked().form(f, FAR);
        }
        for (int what : WHAT) {
            asked().count(what);
        }
        asked().trace();
    }

    private static void judged(int f, int d) {
        for (int i : LINES) {
            for (int what : WHAT) {
                asked().judged(f, d, i, what);
            }
        }
        asked().law(f, d);
        asked().empty(f, d);
        asked().bound(f, d);
        asked().key(f, d);
        for (int set : SETS) {
            asked().struck(f, d, set);
        }
    }

    private static void others(int f, int d) {
        for (int i : LINES) {
            asked().mended(f, d, i);
            asked().forged(f, d, i);
            for (int things : THINGS) {
                asked().shortest(f, d, things, i);
            }
            for (int set : SETS) {
                // The model tries all rows of words: with 16 words just few lines can be burnt.
                if (asked().model().words.size() < 16 || asked().model().paper.size() < 3) {
                    asked().burnt(f, d, set, i);
                }
            }
        }
    }

    private static void views() {
        for (int f : TWO) {
            for (int d : TWO) {
                judged(f, d);
                others(f, d);
            }
            asked().both(f);
            asked().parting(f);
        }
    }

    private static void rates() {
        for (int kind : new int[] {LOW, -1, 0, 1, 2, 3, 4, 5, 6, FAR}) {
            for (int i : LINES) {
                Pair p = fresh();
                p.rate(kind, i);
                p.changeable();
            }
        }
    }

    private static void texts() {
        for (int n : PIECES) {
            Pair p = fresh();
            p.type(0x6162636465666768L, n);
            p.changeable();
        }
        Pair p = fresh();
        p.clear();
        p.changeable();
        Pair q = fresh();
        q.read();
        q.changeable();
    }

    private static void images() {
        for (int image : TWO) {
            Pair p = fresh();
            p.keep(image);
            p.changeable();
            Pair q = fresh();
            q.back(image);
            q.changeable();
        }
    }

    private static void changes() {
        for (int letter : LETTERS) {
            for (int n : METRES) {
                Pair p = fresh();
                p.metre(letter, n);
                p.changeable();
            }
        }
        for (int i : LINES) {
            Pair p = fresh();
            p.take(i);
            p.changeable();
            for (int word : WORDS) {
                Pair q = fresh();
                q.change(i, word);
                q.changeable();
            }
        }
    }

    private static void puts() {
        for (int at : LINES) {
            for (int word : WORDS) {
                put(at, word, 9, 0);
            }
            for (int thing : TENS) {
                put(at, 0, thing, 16);
            }
            for (int before : BEFORE) {
                put(at, 0, 0, before);
            }
        }
    }

    private static void put(int at, int word, int thing, int before) {
        Pair p = fresh();
        p.put(at, word, thing, before);
        p.changeable();
        Pair full = made();
        full.put(at, word, thing, before);
        full.changeable();
    }

    public static void main(String[] args) {
        for (String text : STATES) {
            state = text;
            pair = null;
            told();
            views();
            rates();
            texts();
            images();
            changes();
            puts();
        }
        Check.end("GridTests");
    }
}

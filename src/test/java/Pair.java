import java.util.Arrays;

/** A new object and a new model, asked the same: each answer of the object must be the model's. */
final class Pair {
    private final RhymeLaw x = new RhymeLaw();
    private final Model y = new Model();
    private int calls = 0;

    /** The model, for what a test wants to know before it asks. */
    Model model() {
        return y;
    }

    /** How many calls the document still promises anything of. */
    int left() {
        return Check.MOST_CALLS - calls;
    }

    private long same(String call, long got, long due, long... with) {
        calls++;
        if (calls > Check.MOST_CALLS) {
            Check.holds("at most 512 calls", false);
        }
        Check.due(got == due ? call : call + Arrays.toString(with), got, due);
        return due;
    }

    long type(long v, int n) {
        return same("type", x.type(v, n), y.type(v, n), v, n);
    }

    void type(String text) {
        for (int from = 0; from < text.length(); from += 8) {
            String part = text.substring(from, Math.min(text.length(), from + 8));
            type(Check.packed(part), part.length());
        }
    }

    long clear() {
        return same("clear", x.clear(), y.clear());
    }

    long read() {
        String text = y.text.toString();
        return same("read of '" + text + "'", x.read(), y.read());
    }

    long word(int w, int what) {
        return same("word", x.word(w, what), y.word(w, what), w, what);
    }

    long form(int f, int i) {
        return same("form", x.form(f, i), y.form(f, i), f, i);
    }

    long metre(int letter, int n) {
        return same("metre", x.metre(letter, n), y.metre(letter, n), letter, n);
    }

    long line(int i, int what) {
        return same("line", x.line(i, what), y.line(i, what), i, what);
    }

    long stock(int i, int what) {
        return same("stock", x.stock(i, what), y.stock(i, what), i, what);
    }

    long put(int p, int word, int thing, int before) {
        return same("put", x.put(p, word, thing, before), y.put(p, word, thing, before), p, word, thing, before);
    }

    long change(int i, int word) {
        return same("change", x.change(i, word), y.change(i, word), i, word);
    }

    long take(int i) {
        return same("take", x.take(i), y.take(i), i);
    }

    long judged(int f, int d, int i, int what) {
        return same("judged", x.judged(f, d, i, what), y.judged(f, d, i, what), f, d, i, what);
    }

    long law(int f, int d) {
        return same("law", x.law(f, d), y.law(f, d), f, d);
    }

    long empty(int f, int d) {
        return same("empty", x.empty(f, d), y.empty(f, d), f, d);
    }

    long bound(int f, int d) {
        return same("bound", x.bound(f, d), y.bound(f, d), f, d);
    }

    long struck(int f, int d, int set) {
        return same("struck", x.struck(f, d, set), y.struck(f, d, set), f, d, set);
    }

    long key(int f, int d) {
        return same("key", x.key(f, d), y.key(f, d), f, d);
    }

    long mended(int f, int d, int i) {
        return same("mended", x.mended(f, d, i), y.mended(f, d, i), f, d, i);
    }

    long shortest(int f, int d, int things, int i) {
        return same("shortest", x.shortest(f, d, things, i), y.shortest(f, d, things, i), f, d, things, i);
    }

    long both(int d) {
        return same("both", x.both(d), y.both(d), d);
    }

    long parting(int f) {
        return same("parting", x.parting(f), y.parting(f), f);
    }

    long forged(int f, int d, int k) {
        return same("forged", x.forged(f, d, k), y.forged(f, d, k), f, d, k);
    }

    long burnt(int f, int d, int set, int i) {
        return same("burnt", x.burnt(f, d, set, i), y.burnt(f, d, set, i), f, d, set, i);
    }

    long rate(int kind, int i) {
        return same("rate", x.rate(kind, i), y.rate(kind, i), kind, i);
    }

    long keep(int image) {
        return same("keep", x.keep(image), y.keep(image), image);
    }

    long back(int image) {
        return same("back", x.back(image), y.back(image), image);
    }

    long count(int what) {
        return same("count", x.count(what), y.count(what), what);
    }

    long trace() {
        return same("trace", x.trace(), y.trace());
    }

    /** All that the object holds, but for images, metres and the text's bytes: 291 calls. */
    void state() {
        for (int k = -1; k <= 5; k++) {
            count(k);
        }
        for (int k = -1; k <= 16; k++) {
            for (int what = -1; what <= 4; what++) {
                word(k, what);
            }
        }
        for (int k = -1; k <= 8; k++) {
            for (int what = -1; what <= 3; what++) {
                line(k, what);
                stock(k, what);
            }
        }
        for (int f = -1; f <= 2; f++) {
            for (int k = -1; k <= 17; k++) {
                form(f, k);
            }
        }
    }

    /** What calls that change something may change: the paper, the images, the metres, the trace: 87 calls at most. */
    void changeable() {
        count(4);
        trace();
        paper();
        for (int image = 0; image < 2; image++) {
            back(image);
            paper();
        }
        for (int letter = 0; letter < 8; letter++) {
            metre(letter, 0);
        }
    }

    private void paper() {
        count(2);
        for (int i = 0; i < y.paper.size(); i++) {
            line(i, 0);
            line(i, 1);
            line(i, 2);
        }
    }
}

import java.util.function.Supplier;
import java.util.function.ToLongFunction;

/** What the tests share: answers compared with what is due, and texts typed. */
final class Check {
    // The document promises nothing of an object behind so many calls.
    static final int MOST_CALLS = 512;

    private static final int MOST_TOLD = 40;

    private static int asked = 0;
    private static int wrong = 0;
    private static int sentences = 0;
    private static String sentence = "";

    static void due(String call, long got, long want) {
        asked++;
        if (got != want) {
            wrong++;
            if (wrong <= MOST_TOLD) {
                System.out.println(sentence + call + " answered " + got + ", due is " + want);
            }
        }
    }

    static void holds(String what, boolean does) {
        due(what, does ? 1 : 0, 1);
    }

    /** A test of one sentence of the document; what fails in it is told with that sentence. */
    static void sentence(String told, Runnable test) {
        sentences++;
        sentence = "[" + told + "] ";
        test.run();
        sentence = "";
    }

    /** How many answers were asked up to now. */
    static int asked() {
        return asked;
    }

    /** The call's answer is due, and an object that was asked it is like one that was not. */
    static void changesNothing(String call, Supplier<RhymeLaw> maker, ToLongFunction<RhymeLaw> ask, long want) {
        RhymeLaw x = maker.get();
        due(call, ask.applyAsLong(x), want);
        String[] other = Snapshot.of(maker.get());
        String[] seen = Snapshot.of(x);
        for (int i = 0; i < seen.length; i++) {
            holds(call + " changes nothing: " + seen[i] + ", not " + other[i], seen[i].equals(other[i]));
        }
    }

    static int type(RhymeLaw x, String text) {
        int had = x.count(4);
        for (int from = 0; from < text.length(); from += 8) {
            String part = text.substring(from, Math.min(text.length(), from + 8));
            had = x.type(packed(part), part.length());
        }
        return had;
    }

    static long packed(String part) {
        long v = 0;
        for (int i = 0; i < part.length(); i++) {
            v = v << 8 | part.charAt(i) & 255;
        }
        return v;
    }

    static String times(String item, int n) {
        StringBuilder text = new StringBuilder();
        for (int k = 0; k < n; k++) {
            text.append(item);
        }
        return text.toString();
    }

    /** A new object that has read a text; a fault in it is told as wrong. */
    static RhymeLaw told(String text) {
        RhymeLaw x = new RhymeLaw();
        type(x, text);
        holds("reading " + text, x.read() >= 0);
        return x;
    }

    static void end(String name) {
        String told = sentences == 0 ? "" : sentences + " sentences, ";
        System.out.println(name + ": " + told + asked + " answers, " + wrong + " not as due");
        if (wrong != 0) {
            System.exit(1);
        }
    }
}

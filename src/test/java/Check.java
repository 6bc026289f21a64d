/** What the tests share: answers compared with what is due, and texts typed. */
final class Check {
    private static int asked = 0;
    private static int wrong = 0;

    static void due(String call, long got, long want) {
        asked++;
        if (got != want) {
            wrong++;
            if (wrong <= 40) {
                System.out.println(call + " answered " + got + ", due is " + want);
            }
        }
    }

    static void holds(String what, boolean does) {
        due(what, does ? 1 : 0, 1);
    }

    static int type(RhymeLaw x, String text) {
        int had = x.count(4);
        for (int from = 0; from < text.length(); from += 8) {
            String part = text.substring(from, Math.min(text.length(), from + 8));
            had = x.type(packed(part), part.length());
        }
        return had;
    }

    static long packed(String part) {
        long v = 0;
        for (int i = 0; i < part.length(); i++) {
            v = v << 8 | part.charAt(i) & 255;
        }
        return v;
    }

    /** A new object that has read a text; a fault in it is told as wrong. */
    static RhymeLaw told(String text) {
        RhymeLaw x = new RhymeLaw();
        type(x, text);
        holds("reading " + text, x.read() >= 0);
        return x;
    }

    static void end(String name) {
        System.out.println(name + ": " + asked + " answers, " + wrong + " not as due");
        if (wrong != 0) {
            System.exit(1);
        }
    }
}

/** Long runs of calls, picked by a fixed row of numbers, answered as by the model. */
final class ModelTests {
    private static long seed = 20261119L;
    private static final String[] SCHEMES = {"a", "ab", "aab", "abab", "aabb", "abba", "aaa", "abc", "hg", "abcdefgh"};
    // How often each of these was met: runs in which nothing ever stands would prove nothing.
    private static final String[] MET = {"law", "changed", "short", "parted", "forged", "guessed", "both", "left", "fault"};
    private static final int[] met = new int[MET.length];
    // A step may mend eight lines, and judge each of them four times.
    private static final int MOST_OF_A_STEP = 55;
    private static final int MOST_OF_CHANGEABLE = 87;
    private static final int MOST_OF_STATE = 291;

    private static int pick(int n) {
        seed = seed * 6364136223846793005L + 1442695040888963407L;
        return (int) ((seed >>> 33) % n);
    }

    /** A number that is mostly as told, now and then just beyond or far off. */
    private static int near(int low, int high) {
        int dice = pick(24);
        if (dice == 0) {
            return low - 1;
        }
        if (dice == 1) {
            return high + 1;
        }
        if (dice == 2 && pick(4) == 0) {
            return pick(2) == 0 ? Integer.MIN_VALUE : Integer.MAX_VALUE;
        }
        return high < low ? low : low + pick(high - low + 1);
    }

    private static String blanks() {
        return pick(5) == 0 ? "  ".substring(pick(2)) : "";
    }

    private static String row(String name, int... numbers) {
        StringBuilder item = new StringBuilder(blanks() + name);
        for (int k = 0; k < numbers.length; k++) {
            item.append(k == 0 && pick(3) == 0 ? "" : " ").append(blanks()).append(numbers[k]);
        }
        return item.append(blanks()).append(';').toString();
    }

    private static String text(int sounds, int meanings, int wordCount, int lineCount, int metres) {
        StringBuilder text = new StringBuilder();
        for (int k = 0; k < wordCount; k++) {
            int first = pick(sounds);
            text.append(row("word", first, pick(4) == 0 ? pick(sounds) : first, pick(meanings), 1 + pick(2)));
        }
        for (int k = pick(8) == 0 ? pick(3) : 2; k > 0; k--) {
            text.append(blanks()).append("form ").append(SCHEMES[pick(SCHEMES.length)]).append(blanks()).append(';');
        }
        for (int k = 0; k < metres; k++) {
            text.append("metre ").append((char) ('a' + pick(2))).append(row("", pick(2) * 2));
        }
        for (int k = 0; k < lineCount && wordCount > 0; k++) {
            text.append(row("line", pick(wordCount), pick(10), pick(2)));
        }
        for (int k = pick(7); k > 0 && wordCount > 0; k--) {
            text.append(row("stock", pick(wordCount), pick(10), pick(2)));
        }
        return text.length() > 500 ? text.substring(0, 500) : text.toString();
    }

    private static String spoilt(String text) {
        StringBuilder other = new StringBuilder(text);
        String signs = "; 0123456789abhizwordlinestockformetre\t~A";
        for (int k = 1 + pick(2); k > 0 && other.length() > 0; k--) {
            int at = pick(other.length());
            int how = pick(4);
            if (how == 0) {
                other.deleteCharAt(at);
            } else if (how == 1) {
                other.setCharAt(at, pick(20) == 0 ? (char) (128 + pick(128)) : signs.charAt(pick(signs.length())));
            } else if (how == 2 && other.length() < 500) {
                other.insert(at, signs.charAt(pick(signs.length())));
            } else if (how == 3) {
                other.setLength(at);
            }
        }
        return other.toString();
    }

    /** Typed by pieces of any length, other bytes above each. */
    private static void type(Pair p, String text) {
        for (int from = 0; from < text.length(); ) {
            int n = Math.min(pick(4) == 0 ? 1 + pick(8) : 8, text.length() - from);
            long v = Check.packed(text.substring(from, from + n)) | (n < 8 ? (long) pick(99) << 8 * n : 0);
            p.type(v, n);
            from += n;
        }
    }

    private static void read(Pair p, String text) {
        p.clear();
        type(p, text);
        met[8] += p.read() < 0 ? 1 : 0;
    }

    private static void changes(Pair p) {
        int lines = p.model().paper.size();
        int words = p.model().words.size();
        switch (pick(7)) {
            case 0:
                p.metre(near(0, 7), pick(3) == 0 ? near(0, 20) : pick(2) * 2);
                break;
            case 1:
                p.put(near(0, lines), near(0, words - 1), near(0, 9), pick(3) == 0 ? near(0, 16) : pick(2));
                break;
            case 2:
                p.change(near(0, lines - 1), near(0, words - 1));
                break;
            case 3:
                p.take(near(0, lines - 1));
                break;
            case 4:
                p.keep(near(0, 1));
                break;
            case 5:
                p.back(near(0, 1));
                break;
            default:
                mend(p);
                break;
        }
    }

    /** Takes the mended paper for the paper, so that what is law is met often. */
    private static void mend(Pair p) {
        int f = pick(2);
        int d = pick(2);
        int lines = p.model().paper.size();
        int[] row = new int[lines];
        for (int i = 0; i < lines; i++) {
            row[i] = isFew(p.model(), lines) ? p.model().mended(f, d, i) : -1;
        }
        for (int i = 0; i < lines && row[i] >= 0; i++) {
            p.change(i, row[i]);
        }
    }

    private static void judged(Pair p, int f, int d) {
        int lines = p.model().paper.size();
        for (int i = 0; i < lines; i++) {
            for (int what = 0; what < 4; what++) {
                p.judged(f, d, i, what);
            }
        }
        p.judged(f, d, near(0, lines - 1), near(0, 3));
        met[0] += p.law(f, d) == 1 ? 1 : 0;
        p.empty(f, d);
        p.bound(f, d);
        met[7] += p.struck(f, d, near(0, 255)) > 0 ? 1 : 0;
        p.key(f, d);
    }

    /** Whether the model, that tries all rows of words, is soon done with so many lines. */
    private static boolean isFew(Model y, int lines) {
        return Math.pow(Math.max(1, y.words.size()), lines) <= 20000;
    }

    private static void others(Pair p, int f, int d) {
        int i = near(-1, p.model().paper.size() - 1);
        if (isFew(p.model(), p.model().paper.size())) {
            met[1] += p.mended(f, d, i) > 0 && i == -1 ? 1 : 0;
        }
        int things = pick(3) == 0 ? near(0, 1023) : 1 << pick(10) & ~(1 << pick(10));
        met[2] += p.shortest(f, d, things, near(-1, 6)) > 0 ? 1 : 0;
        met[6] += p.both(d) == 1 ? 1 : 0;
        met[3] += p.parting(f) >= 0 ? 1 : 0;
        int k = near(0, p.model().paper.size() - 1);
        met[4] += p.forged(f, d, k) >= 0 ? 1 : 0;
        int set = near(0, 255);
        while (!isFew(p.model(), Integer.bitCount(set & 255))) {
            set &= set - 1;
        }
        met[5] += p.burnt(f, d, set, i) > 1 ? 1 : 0;
        p.rate(near(0, 5), k);
        p.trace();
    }

    private static String anyText() {
        int lines = pick(7);
        return text(1 + pick(3), 1 + pick(4), lines > 4 ? pick(5) : pick(13), lines, pick(2));
    }

    private static void judgedRun(String text) {
        Pair p = new Pair();
        if (pick(9) == 0) {
            changes(p);
        }
        read(p, text);
        while (p.left() > MOST_OF_A_STEP + MOST_OF_CHANGEABLE) {
            changes(p);
            p.count(2);
            int f = pick(30) == 0 ? near(0, 2) : pick(2);
            int d = pick(30) == 0 ? near(0, 1) : pick(2);
            judged(p, f, d);
            others(p, f, d);
        }
        p.changeable();
    }

    private static void readRun(String text) {
        Pair p = new Pair();
        String first = pick(3) == 0 ? text : "";
        read(p, first);
        p.keep(pick(2));
        read(p, spoilt(text));
        p.back(0);
        if (p.left() >= MOST_OF_STATE) {
            p.state();
        }
    }

    public static void main(String[] args) {
        for (int round = 0; round < 4000; round++) {
            judgedRun(anyText());
            readRun(anyText());
        }
        for (int k = 0; k < MET.length; k++) {
            System.out.println("met " + MET[k] + ": " + met[k]);
            Check.holds(MET[k] + " is met often", met[k] >= 200);
        }
        Check.end("ModelTests");
    }
}

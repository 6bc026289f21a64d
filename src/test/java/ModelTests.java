/** Long runs of calls, picked by a fixed row of numbers, answered as by the model. */
final class ModelTests {
    private static long seed = 20261119L;
    private static final String[] SCHEMES = {"a", "ab", "aab", "abab", "aabb", "abba", "aaa", "abc", "hg", "abcdefgh"};
    // How often each of these was met: runs in which nothing ever stands would prove nothing.
    private static final String[] MET = {"law", "changed", "short", "parted", "forged", "guessed", "both", "left", "fault"};
    private static final int[] met = new int[MET.length];

    private static int pick(int n) {
        seed = seed * 6364136223846793005L + 1442695040888963407L;
        return (int) ((seed >>> 33) % n);
    }

    /** A number that is mostly as told, now and then just beyond or far off. */
    private static int near(int low, int high) {
        int dice = pick(24);
        if (dice == 0) {
            return low - 1;
        }
        if (dice == 1) {
            return high + 1;
        }
        if (dice == 2 && pick(4) == 0) {
            return pick(2) == 0 ? Integer.MIN_VALUE : Integer.MAX_VALUE;
        }
        return high < low ? low : low + pick(high - low + 1);
    }

    private static String blanks() {
        return pick(5) == 0 ? "  ".substring(pick(2)) : "";
    }

    private static String row(String name, int... numbers) {
        StringBuilder item = new StringBuilder(blanks() + name);
        for (int k = 0; k < numbers.length; k++) {
            item.append(k == 0 && pick(3) == 0 ? "" : " ").append(blanks()).append(numbers[k]);
        }
        return item.append(blanks()).append(';').toString();
    }

    private static String text(int sounds, int meanings, int wordCount, int lineCount, int metres) {
        StringBuilder text = new StringBuilder();
        for (int k = 0; k < wordCount; k++) {
            int first = pick(sounds);
            text.append(row("word", first, pick(4) == 0 ? pick(sounds) : first, pick(meanings), 1 + pick(2)));
        }
        for (int k = pick(8) == 0 ? pick(3) : 2; k > 0; k--) {
            text.append(blanks()).append("form ").append(SCHEMES[pick(SCHEMES.length)]).append(blanks()).append(';');
        }
        for (int k = 0; k < metres; k++) {
            text.append("metre ").append((char) ('a' + pick(2))).append(row("", pick(2) * 2));
        }
        for (int k = 0; k < lineCount && wordCount > 0; k++) {
            text.append(row("line", pick(wordCount), pick(10), pick(2)));
        }
        for (int k = pick(7); k > 0 && wordCount > 0; k--) {
            text.append(row("stock", pick(wordCount), pick(10), pick(2)));
        }
        return text.length() > 500 ? text.substring(0, 500) : text.toString();
    }

    private static String spoilt(String text) {
        StringBuilder other = new StringBuilder(text);
        String signs = "; 0123456789abhizwordlinestockformetre\t~A";
        for (int k = 1 + pick(2); k > 0 && other.length() > 0; k--) {
            int at = pick(other.length());
            int how = pick(4);
            if (how == 0) {
                other.deleteCharAt(at);
            } else if (how == 1) {
                other.setCharAt(at, pick(20) == 0 ? (char) (128 + pick(128)) : signs.charAt(pick(signs.length())));
            } else if (how == 2 && other.length() < 500) {
                other.insert(at, signs.charAt(pick(signs.length())));
            } else if (how == 3) {
                other.setLength(at);
            }
        }
        return other.toString();
    }

    private static void type(RhymeLaw x, Model y, String text) {
        for (int from = 0; from < text.length(); ) {
            int n = Math.min(1 + pick(8), text.length() - from);
            long v = Check.packed(text.substring(from, from + n)) | (n < 8 ? (long) pick(99) << 8 * n : 0);
            Check.due("type", x.type(v, n), y.type(v, n));
            from += n;
        }
    }

    private static void read(RhymeLaw x, Model y, String text) {
        Check.due("clear", x.clear(), y.clear());
        type(x, y, text);
        int items = y.read();
        met[8] += items < 0 ? 1 : 0;
        Check.due("read of '" + text + "'", x.read(), items);
    }

    private static void state(RhymeLaw x, Model y) {
        for (int k = -1; k <= 5; k++) {
            Check.due("count " + k, x.count(k), y.count(k));
        }
        for (int k = -1; k <= 16; k++) {
            for (int what = -1; what <= 4; what++) {
                Check.due("word " + k + " " + what, x.word(k, what), y.word(k, what));
            }
        }
        for (int k = -1; k <= 8; k++) {
            for (int what = -1; what <= 3; what++) {
                Check.due("line " + k + " " + what, x.line(k, what), y.line(k, what));
                Check.due("stock " + k + " " + what, x.stock(k, what), y.stock(k, what));
            }
        }
        for (int f = -1; f <= 2; f++) {
            for (int k = -1; k <= 17; k++) {
                Check.due("form " + f + " " + k, x.form(f, k), y.form(f, k));
            }
        }
        Check.due("trace", x.trace(), y.trace());
    }

    private static void changes(RhymeLaw x, Model y) {
        int a;
        int b;
        int c;
        int e;
        switch (pick(7)) {
            case 0:
                a = near(0, 7);
                b = pick(3) == 0 ? near(0, 20) : pick(2) * 2;
                Check.due("metre", x.metre(a, b), y.metre(a, b));
                break;
            case 1:
                a = near(0, y.paper.size());
                b = near(0, y.words.size() - 1);
                c = near(0, 9);
                e = pick(3) == 0 ? near(0, 16) : pick(2);
                Check.due("put", x.put(a, b, c, e), y.put(a, b, c, e));
                break;
            case 2:
                a = near(0, y.paper.size() - 1);
                b = near(0, y.words.size() - 1);
                Check.due("change", x.change(a, b), y.change(a, b));
                break;
            case 3:
                a = near(0, y.paper.size() - 1);
                Check.due("take", x.take(a), y.take(a));
                break;
            case 4:
                a = near(0, 1);
                Check.due("keep", x.keep(a), y.keep(a));
                break;
            case 5:
                a = near(0, 1);
                Check.due("back", x.back(a), y.back(a));
                break;
            default:
                mend(x, y);
                break;
        }
    }

    /** Takes the mended paper for the paper, so that what is law is met often. */
    private static void mend(RhymeLaw x, Model y) {
        int f = pick(2);
        int d = pick(2);
        int lines = y.paper.size();
        int[] row = new int[lines];
        for (int i = 0; i < lines; i++) {
            row[i] = y.mended(f, d, i);
        }
        for (int i = 0; i < lines && row[i] >= 0; i++) {
            Check.due("change", x.change(i, row[i]), y.change(i, row[i]));
        }
    }

    private static void judged(RhymeLaw x, Model y, int f, int d) {
        for (int i = 0; i < y.paper.size(); i++) {
            for (int what = 0; what < 4; what++) {
                Check.due("judged", x.judged(f, d, i, what), y.judged(f, d, i, what));
            }
        }
        int i = near(0, y.paper.size() - 1);
        int what = near(0, 3);
        Check.due("judged", x.judged(f, d, i, what), y.judged(f, d, i, what));
        int law = y.law(f, d);
        met[0] += law == 1 ? 1 : 0;
        Check.due("law", x.law(f, d), law);
        Check.due("empty", x.empty(f, d), y.empty(f, d));
        Check.due("bound", x.bound(f, d), y.bound(f, d));
        int set = near(0, 255);
        int left = y.struck(f, d, set);
        met[7] += left > 0 ? 1 : 0;
        Check.due("struck", x.struck(f, d, set), left);
        Check.due("key", x.key(f, d), y.key(f, d));
    }

    private static boolean isFew(Model y, int set) {
        return Math.pow(Math.max(1, y.words.size()), Integer.bitCount(set & 255)) <= 3000;
    }

    private static void others(RhymeLaw x, Model y, int f, int d) {
        int i = near(-1, y.paper.size() - 1);
        int changes = y.mended(f, d, i);
        met[1] += i == -1 && changes > 0 ? 1 : 0;
        Check.due("mended", x.mended(f, d, i), changes);
        int things = pick(3) == 0 ? near(0, 1023) : 1 << pick(10) & ~(1 << pick(10));
        int at = near(-1, 6);
        int shortest = y.shortest(f, d, things, at);
        met[2] += shortest > 0 ? 1 : 0;
        Check.due("shortest", x.shortest(f, d, things, at), shortest);
        int both = y.both(d);
        met[6] += both == 1 ? 1 : 0;
        Check.due("both", x.both(d), both);
        int parting = y.parting(f);
        met[3] += parting >= 0 ? 1 : 0;
        Check.due("parting", x.parting(f), parting);
        int k = near(0, y.paper.size() - 1);
        int forged = y.forged(f, d, k);
        met[4] += forged >= 0 ? 1 : 0;
        Check.due("forged", x.forged(f, d, k), forged);
        int set = near(0, 255);
        while (!isFew(y, set)) {
            set &= set - 1;
        }
        long ways = y.burnt(f, d, set, i);
        met[5] += ways > 1 ? 1 : 0;
        Check.due("burnt", x.burnt(f, d, set, i), ways);
        int kind = near(0, 5);
        Check.due("rate", x.rate(kind, k), y.rate(kind, k));
        Check.due("trace", x.trace(), y.trace());
    }

    private static void run(int round) {
        RhymeLaw x = new RhymeLaw();
        Model y = new Model();
        int sounds = 1 + pick(3);
        int lines = pick(7);
        int words = lines > 4 ? pick(5) : pick(13);
        String text = text(sounds, 1 + pick(4), words, lines, pick(2));
        if (pick(9) == 0) {
            changes(x, y);
        }
        read(x, y, text);
        for (int step = 0; step < 12; step++) {
            changes(x, y);
            if (y.paper.size() > 6 && y.words.size() > 4) {
                continue;
            }
            int f = pick(30) == 0 ? near(0, 2) : pick(2);
            int d = pick(30) == 0 ? near(0, 1) : pick(2);
            judged(x, y, f, d);
            others(x, y, f, d);
        }
        state(x, y);
        read(x, y, spoilt(text));
        Check.due("back behind reading", x.back(0), y.back(0));
        state(x, y);
    }

    public static void main(String[] args) {
        for (int round = 0; round < 3000; round++) {
            run(round);
        }
        for (int k = 0; k < MET.length; k++) {
            System.out.println("met " + MET[k] + ": " + met[k]);
            Check.holds(MET[k] + " is met often", met[k] >= 200);
        }
        Check.end("ModelTests");
    }
}

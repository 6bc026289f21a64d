import java.util.function.IntToLongFunction;
import java.util.function.Supplier;

/** Each sentence that names a boundary of other papers: promises 19 to 24. */
final class OtherBoundaryTests {
    private static final int FAR = Integer.MAX_VALUE;
    private static final int LOW = Integer.MIN_VALUE;

    // Words 0, 1, 2 sound alike in dialect 0, word 2 not in dialect 1; 3 and 4 in both; 5 is long, of another meaning.
    private static final String WORDS =
            "word 0 0 0 1;word 0 0 0 1;word 0 1 0 1;word 2 2 0 1;word 2 2 0 1;word 0 0 9 4;";
    private static final String SIXTEEN = Check.times("word 9 9 9 1;", 16);

    private static String lines(int... words) {
        StringBuilder text = new StringBuilder();
        for (int i = 0; i < words.length; i++) {
            text.append("line ").append(words[i]).append(' ').append(i).append(" 0;");
        }
        return text.toString();
    }

    private static String stock(int... words) {
        StringBuilder text = new StringBuilder();
        for (int i = 0; i < words.length; i++) {
            text.append("stock ").append(words[i]).append(' ').append(i).append(" 0;");
        }
        return text.toString();
    }

    private static RhymeLaw paper(String forms, int... words) {
        return Check.told(WORDS + forms + lines(words));
    }

    private static RhymeLaw shelf(String forms, int... words) {
        return Check.told(WORDS + forms + stock(words));
    }

    private static RhymeLaw busy(String told) {
        RhymeLaw x = Check.told(told);
        x.rate(0, 0);
        x.keep(1);
        x.metre(7, 7);
        Check.type(x, "form c;");
        return x;
    }

    private static RhymeLaw sample() {
        return busy(WORDS + "form ab;form aabb;" + lines(0, 3, 2, 4) + stock(0, 3, 4));
    }

    private static RhymeLaw eight() {
        return busy(WORDS + "form a;" + lines(0, 1, 0, 1, 0, 1, 0, 1) + stock(3));
    }

    private static void bad(String call, IntToLongFunction ask, int... wrong) {
        for (int n : wrong) {
            Check.due(call + " " + n, ask.applyAsLong(n), -1);
        }
    }

    // ---- promise 19: mended

    private static void mendedRow(RhymeLaw x, int d, int changes, int... row) {
        Check.due("changed", x.mended(0, d, -1), changes);
        for (int i = 0; i < row.length; i++) {
            Check.due("word of line " + i, x.mended(0, d, i), row[i]);
        }
        Check.due("no line behind", x.mended(0, d, row.length), -1);
    }

    private static void mendedForms() {
        RhymeLaw x = sample();
        bad("form", f -> x.mended(f, 0, -1), -1, 2, FAR, LOW);
        bad("dialect", d -> x.mended(0, d, -1), -1, 2, FAR, LOW);
        RhymeLaw none = paper("", 0, 1);
        bad("form", f -> none.mended(f, 0, -1), 0, 1);
        Check.changesNothing("mended", OtherBoundaryTests::sample, y -> y.mended(0, 1, 2), 1);
        Check.changesNothing("mended", OtherBoundaryTests::sample, y -> y.mended(2, 1, 2), -1);
    }

    private static void mendedLines() {
        RhymeLaw x = sample();
        Check.due("how many", x.mended(0, 0, -1), 0);
        Check.due("line 0", x.mended(0, 0, 0), 0);
        Check.due("line 3", x.mended(0, 0, 3), 4);
        bad("line", i -> x.mended(0, 0, i), -2, 4, 8, FAR, LOW);
        RhymeLaw full = eight();
        Check.due("line 7", full.mended(0, 0, 7), 1);
        bad("line", i -> full.mended(0, 0, i), -2, 8, FAR, LOW);
        Check.changesNothing("line -2", OtherBoundaryTests::sample, y -> y.mended(0, 0, -2), -1);
        Check.changesNothing("line 4", OtherBoundaryTests::sample, y -> y.mended(0, 0, 4), -1);
    }

    private static void mendedOfFewLines() {
        RhymeLaw none = paper("form a;");
        Check.due("no lines", none.mended(0, 0, -1), -9);
        bad("line", i -> none.mended(0, 0, i), 0, 1, -2);
        RhymeLaw one = paper("form a;", 0);
        Check.due("one line", one.mended(0, 0, -1), -9);
        Check.due("line 0 of one", one.mended(0, 0, 0), -9);
        bad("line", i -> one.mended(0, 0, i), 1, -2);
        mendedRow(paper("form a;", 0, 0), 0, 1, 0, 1);
    }

    private static void mendedOrNone() {
        RhymeLaw letter = paper("form aab;", 0, 1, 0);
        Check.due("a letter with one line", letter.mended(0, 0, -1), -9);
        Check.due("a line then", letter.mended(0, 0, 2), -9);
        RhymeLaw meaning = paper("form a;", 5, 5);
        Check.due("none of its meaning", meaning.mended(0, 0, -1), -9);
        RhymeLaw metre = paper("form a;metre a 2;", 0, 1);
        Check.due("none of its metre", metre.mended(0, 0, -1), -9);
        Check.due("a line then", metre.mended(0, 0, 1), -9);
        bad("no line then", i -> metre.mended(0, 0, i), 2, -2);
        RhymeLaw sound = Check.told("word 0 0 0 1;word 1 0 0 1;form a;line 0 0 0;line 1 0 0;");
        Check.due("none of its sound", sound.mended(0, 0, -1), -9);
        mendedRow(sound, 1, 0, 0, 1);
    }

    private static void mendedNothing() {
        mendedRow(eight(), 0, 0, 0, 1, 0, 1, 0, 1, 0, 1);
        mendedRow(paper("form a;", 4, 3), 0, 0, 4, 3);
    }

    private static void mendedAll() {
        RhymeLaw x = Check.told("word 0 0 3 1;word 0 0 3 1;word 0 0 3 2;form a;metre a 1;" + lines(2, 2, 2, 2, 2, 2, 2, 2));
        mendedRow(x, 0, 8, 0, 1, 0, 1, 0, 1, 0, 1);
        x.change(0, 1);
        mendedRow(x, 0, 7, 1, 0, 1, 0, 1, 0, 1, 0);
    }

    private static void mendedOfTheirMeaning() {
        mendedRow(paper("form a;", 0, 5), 0, 0, 0, 5);
        mendedRow(paper("form a;", 3, 5), 0, 1, 0, 5);
        mendedRow(paper("form a;", 5, 4, 5), 0, 1, 5, 0, 5);
        RhymeLaw ends = Check.told("word 0 0 0 1;word 0 0 9 1;word 0 0 0 1;word 0 0 9 1;form a;" + lines(1, 1));
        mendedRow(ends, 0, 1, 1, 3);
    }

    private static void mendedTheFewest() {
        mendedRow(paper("form a;", 3, 3, 4), 0, 1, 4, 3, 4);
        mendedRow(paper("form a;", 0, 0, 0), 0, 1, 0, 1, 0);
        mendedRow(paper("form ab;", 0, 3, 0, 3), 0, 2, 0, 3, 1, 4);
        RhymeLaw x = paper("form a;", 2, 0, 1);
        mendedRow(x, 0, 0, 2, 0, 1);
        mendedRow(x, 1, 1, 1, 0, 1);
    }

    /** The first by the first line, then by the next: not by the fewest changed ahead. */
    private static void mendedTheFirst() {
        mendedRow(paper("form a;", 1, 1), 0, 1, 0, 1);
        mendedRow(paper("form a;", 4, 4), 0, 1, 3, 4);
        mendedRow(paper("form a;", 0, 3), 0, 1, 0, 1);
        mendedRow(paper("form a;", 2, 3), 0, 1, 2, 0);
        mendedRow(paper("form abab;", 4, 1, 4, 1), 0, 2, 3, 0, 4, 1);
        RhymeLaw x = Check.told(SIXTEEN + "form a;" + lines(15, 15, 15, 15, 15, 15, 15, 15));
        mendedRow(x, 0, 4, 0, 15, 0, 15, 0, 15, 0, 15);
    }

    private static void mendedByAnyLetters() {
        for (String letters : new String[] {"a", "b", "h", "aab", "hhg"}) {
            mendedRow(paper("form " + letters + ";", 0, 0), 0, 1, 0, 1);
        }
        mendedRow(paper("form gh;metre a 9;", 0, 3, 0, 3), 0, 2, 0, 3, 1, 4);
    }

    // ---- promise 20: shortest

    private static void row(RhymeLaw x, int things, int... row) {
        Check.due("how many", x.shortest(0, 0, things, -1), row.length);
        for (int i = 0; i < row.length; i++) {
            Check.due("of the stock at " + i, x.shortest(0, 0, things, i), row[i]);
        }
        Check.due("not so many", x.shortest(0, 0, things, row.length), -5);
        Check.due("not so many", x.shortest(0, 0, things, 6), -5);
    }

    private static void shortestForms() {
        RhymeLaw x = sample();
        Check.due("by form 0", x.shortest(0, 0, 0, -1), -9);
        bad("form", f -> x.shortest(f, 0, 0, -1), -1, 2, FAR, LOW);
        bad("dialect", d -> x.shortest(0, d, 0, -1), -1, 2, FAR, LOW);
        RhymeLaw two = shelf("form ab;form aabb;", 0, 3, 1);
        Check.due("by form 0", two.shortest(0, 0, 0, -1), -9);
        Check.due("by form 1", two.shortest(1, 0, 0, -1), 2);
        Check.due("by form 1, the second", two.shortest(1, 0, 0, 1), 2);
        RhymeLaw none = shelf("", 0, 1);
        bad("form", f -> none.shortest(f, 0, 0, -1), 0, 1);
        Check.changesNothing("shortest", OtherBoundaryTests::sample, y -> y.shortest(1, 0, 6, 0), 1);
        Check.changesNothing("shortest", OtherBoundaryTests::sample, y -> y.shortest(2, 0, 6, 0), -1);
    }

    private static void shortestThings() {
        RhymeLaw x = Check.told(WORDS + "form a;stock 0 0 0;stock 1 9 0;");
        row(x, 0, 0, 1);
        row(x, 1, 0, 1);
        row(x, 512, 0, 1);
        row(x, 513, 0, 1);
        Check.due("all things", x.shortest(0, 0, 1023, -1), -9);
        for (int bit = 1; bit < 9; bit++) {
            Check.due("a thing that none has", x.shortest(0, 0, 1 << bit, -1), -9);
        }
        RhymeLaw other = Check.told(WORDS + "form a;stock 0 1 0;stock 1 1 0;");
        Check.due("thing 0, that none has", other.shortest(0, 0, 1, -1), -9);
        bad("things", things -> x.shortest(0, 0, things, -1), -1, 1024, FAR, LOW);
        bad("things", things -> x.shortest(0, 0, things, 0), -1, 1024);
        Check.changesNothing("things 1024", OtherBoundaryTests::sample, y -> y.shortest(0, 0, 1024, -1), -1);
    }

    private static void shortestAt() {
        RhymeLaw x = shelf("form a;", 3, 0, 1);
        row(x, 0, 1, 2);
        Check.due("far behind", x.shortest(0, 0, 0, FAR), -5);
        bad("at", i -> x.shortest(0, 0, 0, i), -2, -5, LOW);
        Check.changesNothing("not so many", OtherBoundaryTests::sample, y -> y.shortest(1, 0, 0, 2), -5);
        Check.changesNothing("below -1", OtherBoundaryTests::sample, y -> y.shortest(1, 0, 0, -2), -1);
    }

    private static void shortestOrNone() {
        RhymeLaw none = Check.told(WORDS + "form a;" + lines(0, 1));
        Check.due("no stock", none.shortest(0, 0, 0, -1), -9);
        Check.due("no stock, at 0", none.shortest(0, 0, 0, 0), -9);
        bad("no stock, below -1", i -> none.shortest(0, 0, 0, i), -2);
        bad("no stock, no such things", things -> none.shortest(0, 0, things, -1), 1024, -1);
        Check.due("one of the stock", shelf("form a;", 0).shortest(0, 0, 0, -1), -9);
        Check.due("one word alone", shelf("form a;", 0, 0, 0, 0, 0, 0).shortest(0, 0, 0, -1), -9);
        Check.due("more letters than the stock has lines for",
                shelf("form abcd;", 0, 1, 0, 1, 0, 1).shortest(0, 0, 0, -1), -9);
        Check.due("no metre", shelf("form a;metre a 2;", 0, 1).shortest(0, 0, 0, -1), -9);
        Check.due("no sound", shelf("form a;", 0, 3).shortest(0, 0, 0, 0), -9);
    }

    private static void shortestEachOnce() {
        Check.due("twice the same", shelf("form a;", 0, 3, 5).shortest(0, 0, 2, -1), -9);
        row(shelf("form a;", 0, 1, 0, 3), 5, 0, 1, 2);
        Check.due("none to go between", shelf("form a;", 0, 3, 0).shortest(0, 0, 5, -1), -9);
    }

    private static void shortestOfAllSix() {
        row(shelf("form aabbcc;", 0, 1, 3, 4, 5, 2), 63, 0, 1, 2, 3, 4, 5);
        row(shelf("form a;", 0, 0, 0, 1, 1, 1), 63, 0, 3, 1, 4, 2, 5);
        row(shelf("form abc;", 0, 3, 0, 4, 1, 1), 0, 0, 1, 2, 4, 3, 5);
    }

    private static void shortestTheFewest() {
        row(shelf("form a;", 0, 0, 0, 0, 3, 4), 0, 4, 5);
        row(shelf("form a;", 0, 0, 0, 1, 3, 4), 1, 0, 3);
        row(shelf("form aab;", 0, 1, 3, 4, 3, 4), 0, 0, 1);
        row(shelf("form aab;", 0, 1, 3, 4, 3, 4), 4, 2, 3);
    }

    private static void shortestTheFirst() {
        row(shelf("form a;", 1, 0, 1, 0), 0, 0, 1);
        row(shelf("form a;", 1, 0, 1, 0), 12, 2, 3);
        row(shelf("form a;", 1, 0, 1, 0), 9, 0, 3);
        row(shelf("form abab;", 3, 0, 4, 1), 0, 0, 1, 2, 3);
        RhymeLaw metre = Check.told(WORDS + "form a;metre a 3;stock 0 0 0;stock 1 1 2;stock 0 2 2;");
        row(metre, 0, 1, 2);
    }

    private static void shortestByAnyLetters() {
        for (String letters : new String[] {"a", "b", "h", "aab", "hhg"}) {
            row(shelf("form " + letters + ";", 3, 0, 1), 0, 1, 2);
        }
        row(shelf("form hgg;", 0, 3, 4, 1), 0, 0, 1, 2, 3);
    }

    private static void shortestInADialect() {
        RhymeLaw x = shelf("form a;", 2, 0, 1);
        row(x, 0, 0, 1);
        Check.due("in dialect 1", x.shortest(0, 1, 0, 0), 1);
        Check.due("in dialect 1", x.shortest(0, 1, 1, 0), -9);
    }

    /** The paper is full, and the stock's row is judged by itself. */
    private static void shortestWhateverThePaper() {
        RhymeLaw x = Check.told(WORDS + "form a;" + lines(0, 1, 0, 1, 0, 1, 0, 1) + stock(3, 4));
        row(x, 3, 0, 1);
        Check.due("eight lines", x.count(2), 8);
    }

    // ---- promise 21: both

    private static void bothForms() {
        bad("no form", d -> new RhymeLaw().both(d), 0, 1);
        RhymeLaw one = paper("form a;", 0, 1);
        bad("one form", d -> one.both(d), -1, 0, 1, 2);
        RhymeLaw two = paper("form a;form aa;", 0, 1);
        Check.due("two forms", two.both(0), 1);
        bad("dialect", d -> two.both(d), -1, 2, FAR, LOW);
        Check.changesNothing("both", OtherBoundaryTests::sample, y -> y.both(0), 0);
        Check.changesNothing("both", OtherBoundaryTests::sample, y -> y.both(2), -1);
        Check.changesNothing("both by one", OtherBoundaryTests::eight, y -> y.both(0), -1);
    }

    private static void bothOfLaw() {
        Check.due("no lines", paper("form a;form b;").both(0), 0);
        Check.due("one line", paper("form a;form b;", 0).both(0), 0);
        Check.due("two", paper("form a;form b;", 0, 1).both(0), 1);
        Check.due("just the first", paper("form a;form ab;", 0, 1).both(0), 0);
        Check.due("just the second", paper("form ab;form a;", 0, 1).both(0), 0);
        RhymeLaw x = paper("form a;form b;", 0, 2);
        Check.due("in dialect 0", x.both(0), 1);
        Check.due("in dialect 1", x.both(1), 0);
        Check.due("eight", paper("form a;form h;", 0, 1, 0, 1, 0, 1, 0, 1).both(1), 1);
    }

    // ---- promise 22: parting

    private static void partingForms() {
        RhymeLaw x = sample();
        Check.due("parting", x.parting(0), 2);
        bad("form", f -> x.parting(f), -1, 2, FAR, LOW);
        RhymeLaw one = paper("form a;", 0, 2);
        Check.due("the only form", one.parting(0), 2);
        bad("form", f -> one.parting(f), -1, 1, 2);
        bad("no form", f -> new RhymeLaw().parting(f), 0);
        Check.changesNothing("parting", OtherBoundaryTests::sample, y -> y.parting(0), 2);
        Check.changesNothing("parting", OtherBoundaryTests::sample, y -> y.parting(2), -1);
    }

    private static void partingWhereItIsNotSo() {
        Check.due("no lines", paper("form a;").parting(0), -9);
        Check.due("law in both", paper("form a;", 0, 1).parting(0), -9);
        Check.due("law in neither", paper("form a;", 0, 3).parting(0), -9);
        RhymeLaw second = Check.told("word 0 5 0 1;word 1 5 0 1;form a;" + lines(0, 1));
        Check.due("law in dialect 1 alone", second.parting(0), -9);
        RhymeLaw mixed = Check.told("word 1 2 0 1;word 3 1 0 1;form a;" + lines(0, 1));
        Check.due("law in neither, were it not for a word", mixed.parting(0), -9);
    }

    private static void partingNone() {
        RhymeLaw two = Check.told("word 1 2 0 1;word 1 3 0 1;word 1 4 0 1;form a;" + lines(0, 1, 2));
        Check.due("two words part them", two.parting(0), -9);
        RhymeLaw other = Check.told("word 1 2 0 1;word 1 3 0 1;form a;" + lines(0, 1));
        Check.due("each needs the other", other.parting(0), -9);
    }

    private static void partingTheLeast() {
        RhymeLaw least = Check.told("word 5 7 0 1;word 7 5 0 1;word 5 6 0 1;word 5 5 0 1;form a;" + lines(3, 2));
        Check.due("one of its lines", least.parting(0), 2);
        RhymeLaw several = Check.told("word 9 9 0 1;word 5 6 0 1;word 5 5 0 1;form a;" + lines(2, 1, 2, 1));
        Check.due("in several lines", several.parting(0), 1);
        RhymeLaw either = Check.told("word 9 9 0 1;word 4 6 0 1;word 4 4 0 1;word 6 4 0 1;form a;" + lines(2, 1));
        Check.due("behind the other", either.parting(0), 1);
        RhymeLaw last = Check.told(Check.times("word 1 1 0 1;", 15) + "word 1 2 0 1;form a;" + lines(0, 15));
        Check.due("word 15", last.parting(0), 15);
        RhymeLaw first = Check.told("word 1 2 0 1;" + Check.times("word 1 1 0 1;", 15) + "form a;" + lines(15, 0));
        Check.due("word 0", first.parting(0), 0);
    }

    // ---- promise 23: forged

    private static void forgedForms() {
        RhymeLaw x = sample();
        bad("form", f -> x.forged(f, 0, 0), -1, 2, FAR, LOW);
        bad("dialect", d -> x.forged(0, d, 0), -1, 2, FAR, LOW);
        bad("line", k -> x.forged(0, 0, k), -1, 4, 8, FAR, LOW);
        RhymeLaw none = paper("", 0, 1);
        bad("form", f -> none.forged(f, 0, 0), 0, 1);
        RhymeLaw empty = Check.told(WORDS + "form a;" + stock(0));
        bad("no lines", k -> empty.forged(0, 0, k), -1, 0, 1);
        Check.changesNothing("forged", OtherBoundaryTests::sample, y -> y.forged(0, 0, 0), 10);
        Check.changesNothing("forged", OtherBoundaryTests::sample, y -> y.forged(0, 0, 4), -1);
    }

    private static void forgedState() {
        Supplier<RhymeLaw> loose = () -> busy(WORDS + "form a;" + lines(0, 1, 3) + stock(3));
        Check.changesNothing("it does not bind", loose, x -> x.forged(0, 0, 2), -2);
        Check.changesNothing("one that opens alone", () -> busy(WORDS + "form ab;" + lines(0, 1)), x -> x.forged(0, 0, 0), -2);
        RhymeLaw parted = paper("form a;", 0, 2);
        Check.due("in dialect 0", parted.forged(0, 0, 1), -9);
        Check.due("in dialect 1", parted.forged(0, 1, 1), -2);
    }

    private static void forgedFull() {
        for (int k = 0; k < 8; k++) {
            int line = k;
            Check.changesNothing("line " + k + " of eight", OtherBoundaryTests::eight, x -> x.forged(0, 0, line), -3);
        }
        RhymeLaw x = eight();
        x.take(7);
        Check.due("seven", x.forged(0, 0, 6), 0);
        RhymeLaw bare = paper("form a;", 0, 1, 0, 1, 0, 1, 0, 1);
        Check.due("eight, no stock", bare.forged(0, 0, 0), -3);
    }

    private static void forgedFirstRefusal() {
        RhymeLaw x = eight();
        x.change(7, 3);
        Check.due("FULL", x.forged(0, 0, 6), -3);
        Check.due("STATE ahead of FULL", x.forged(0, 0, 7), -2);
        Check.due("BAD ahead of FULL", x.forged(0, 0, 8), -1);
        Check.due("BAD ahead of FULL", x.forged(1, 0, 6), -1);
        Check.due("BAD ahead of STATE", x.forged(0, 2, 7), -1);
    }

    private static void forgedOrNone() {
        Check.due("no stock", paper("form a;", 0, 1).forged(0, 0, 0), -9);
        RhymeLaw vain = Check.told(WORDS + "form a;metre a 1;" + lines(0, 1) + stock(5, 5, 5, 5, 5, 5));
        Check.due("what falls", vain.forged(0, 0, 0), -9);
        Check.due("what falls", vain.forged(0, 0, 1), -9);
        RhymeLaw behind = Check.told(WORDS + "form ab;" + lines(0, 3, 1, 4) + stock(5));
        Check.due("behind all it parts nothing", behind.forged(0, 0, 3), 0);
    }

    private static void forgedTheLeastPlace() {
        RhymeLaw ahead = Check.told(WORDS + "form a;" + lines(0, 1) + stock(3));
        Check.due("ahead of all", ahead.forged(0, 0, 0), 0);
        Check.due("ahead of all", ahead.forged(0, 0, 1), 0);
        RhymeLaw same = Check.told(WORDS + "form a;" + lines(0, 1) + stock(1));
        Check.due("the opening rhymes with it", same.forged(0, 0, 0), -9);
        Check.due("the same word just ahead", same.forged(0, 0, 1), 10);
        RhymeLaw last = Check.told(WORDS + "form a;metre a 1;" + lines(0, 1, 0, 1, 0, 1, 0) + stock(5, 5, 5, 5, 5, 0));
        Check.due("ahead of the last, by the last", last.forged(0, 0, 6), 65);
        Check.due("ahead of the third, by the last", last.forged(0, 0, 2), 25);
    }

    private static void forgedTheLeastOfTheStock() {
        RhymeLaw x = Check.told(WORDS + "form a;metre a 1;" + lines(0, 1) + stock(5, 3, 4, 3, 3, 3));
        Check.due("of several the least", x.forged(0, 0, 1), 1);
        RhymeLaw all = Check.told(WORDS + "form a;" + lines(0, 1) + stock(3, 3, 3, 3, 3, 3));
        Check.due("of several the least", all.forged(0, 0, 0), 0);
        RhymeLaw sixth = Check.told(WORDS + "form a;metre a 1;" + lines(0, 1) + stock(5, 5, 5, 5, 5, 3));
        Check.due("the sixth", sixth.forged(0, 0, 0), 5);
    }

    // ---- promise 24: burnt

    private static void burntForms() {
        RhymeLaw x = sample();
        bad("form", f -> x.burnt(f, 0, 0, -1), -1, 2, FAR, LOW);
        bad("dialect", d -> x.burnt(0, d, 0, -1), -1, 2, FAR, LOW);
        RhymeLaw none = paper("", 0, 1);
        bad("form", f -> none.burnt(f, 0, 0, -1), 0, 1);
        Check.changesNothing("burnt", OtherBoundaryTests::sample, y -> y.burnt(0, 0, 1, 0), 3);
        Check.changesNothing("burnt", OtherBoundaryTests::sample, y -> y.burnt(2, 0, 1, 0), -1);
    }

    private static void burntLine() {
        RhymeLaw x = sample();
        Check.due("ways", x.burnt(0, 0, 15, -1), 14L * 14);
        Check.due("line 0", x.burnt(0, 0, 15, 0), 6);
        Check.due("line 3", x.burnt(0, 0, 15, 3), 6);
        bad("below -1, beyond", i -> x.burnt(0, 0, 15, i), -2, 4, 5, 7, 8, FAR, LOW);
        bad("not burnt, beyond", i -> x.burnt(0, 0, 0, i), -2, 4);
        RhymeLaw full = eight();
        Check.due("line 7", full.burnt(0, 0, 0, 7), 1);
        bad("beyond eight", i -> full.burnt(0, 0, 255, i), -2, 8);
        Check.changesNothing("below -1", OtherBoundaryTests::sample, y -> y.burnt(0, 0, 15, -2), -1);
        Check.changesNothing("beyond", OtherBoundaryTests::sample, y -> y.burnt(0, 0, 15, 4), -1);
    }

    private static void burntLinesThatThereAreNot() {
        RhymeLaw x = paper("form a;", 0, 1);
        for (int set : new int[] {0, 4, 8, 256, LOW, -4, FAR - 3}) {
            Check.due("ways of " + set, x.burnt(0, 0, set, -1), 1);
            Check.due("words of " + set, x.burnt(0, 0, set, 1), 1);
        }
        Check.due("all bits", x.burnt(0, 0, -1, -1), 14);
        Check.due("one that there is, too", x.burnt(0, 0, -4 | 1, -1), 3);
        Check.due("one that there is, too", x.burnt(0, 0, 256 | 2, -1), 3);
        RhymeLaw full = eight();
        Check.due("behind eight", full.burnt(0, 0, -256, -1), 1);
        Check.due("the last of eight", full.burnt(0, 0, 128 | 256, -1), 3);
    }

    /** The letter that a line behind the paper would have is none of the paper's. */
    private static void burntByAnyLetters() {
        for (String letters : new String[] {"a", "b", "h", "aab", "hhg", "hha"}) {
            RhymeLaw x = paper("form " + letters + ";metre c 9;", 0, 1);
            Check.due("all bits by " + letters, x.burnt(0, 0, -1, -1), 14);
            Check.due("words by " + letters, x.burnt(0, 0, -1, 1), 6);
            Check.due("none by " + letters, x.burnt(0, 0, 0, -1), 1);
        }
        RhymeLaw metre = paper("form aab;metre b 9;", 0, 1);
        Check.due("a metre of a letter that no line has", metre.burnt(0, 0, -1, -1), 14);
        RhymeLaw taken = paper("form aab;", 0, 1, 3);
        Check.due("a letter with one line", taken.burnt(0, 0, -1, -1), 0);
        taken.take(2);
        Check.due("it is taken out", taken.burnt(0, 0, -1, -1), 14);
    }

    private static void burntOfFewLines() {
        RhymeLaw none = paper("form a;");
        Check.due("no lines", none.burnt(0, 0, 0, -1), 0);
        Check.due("no lines, all bits", none.burnt(0, 0, -1, -1), 0);
        bad("no lines", i -> none.burnt(0, 0, -1, i), 0, -2);
        RhymeLaw one = paper("form a;", 0);
        Check.due("one line", one.burnt(0, 0, 1, -1), 0);
        Check.due("words of one line", one.burnt(0, 0, 1, 0), 0);
    }

    private static void burntNoWays() {
        RhymeLaw x = paper("form ab;", 0, 3, 3, 4);
        Check.due("not law", x.burnt(0, 0, 0, -1), 0);
        Check.due("not law, a line", x.burnt(0, 0, 0, 0), 0);
        Check.due("burnt where it is law", x.burnt(0, 0, 8, -1), 0);
        Check.due("burnt where it is law, its words", x.burnt(0, 0, 8, 3), 0);
        Check.due("burnt where it is not", x.burnt(0, 0, 4, -1), 3);
        Check.due("its words", x.burnt(0, 0, 4, 2), 3);
        Check.due("one that is not burnt", x.burnt(0, 0, 4, 0), 1);
        x.metre(1, 9);
        Check.due("no metre", x.burnt(0, 0, 15, -1), 0);
        Check.due("no metre, words", x.burnt(0, 0, 15, 0), 0);
        Check.due("a letter with one line", paper("form aab;", 0, 1, 2).burnt(0, 0, 7, -1), 0);
    }

    private static void burntAnyWord() {
        RhymeLaw x = Check.told(SIXTEEN + "form a;form abcd;" + lines(5, 5, 5, 5, 5, 5, 5, 5));
        long most = 16;
        for (int line = 1; line < 8; line++) {
            most *= 15;
        }
        Check.due("one letter", x.burnt(0, 0, 255, -1), most);
        Check.due("four letters", x.burnt(1, 0, 255, -1), 240L * 240 * 240 * 240);
        Check.due("words", x.burnt(0, 0, 255, 0), 16);
        Check.due("words", x.burnt(1, 0, 255, 7), 16);
        Check.due("one of a letter", x.burnt(1, 0, 15, 3), 15);
        Check.due("of another meaning, too", paper("form a;", 0, 1).burnt(0, 0, 2, 1), 3);
    }

    private static void burntWordsOfALine() {
        // Words 0, 1, 2, 5 rhyme: 2 and 5 between 0 and 1; with line 0 burnt, too, 0, 2, 5 ahead of 1, each behind three.
        RhymeLaw x = paper("form a;", 0, 3, 1);
        Check.due("between", x.burnt(0, 0, 2, -1), 2);
        Check.due("words between", x.burnt(0, 0, 2, 1), 2);
        Check.due("two of three", x.burnt(0, 0, 3, -1), 9);
        Check.due("words of the first", x.burnt(0, 0, 3, 0), 4);
        Check.due("words of the second", x.burnt(0, 0, 3, 1), 3);
        Check.due("the last as it is", x.burnt(0, 0, 3, 2), 1);
        RhymeLaw metre = paper("form a;metre a 4;", 0, 1);
        Check.due("by a metre", metre.burnt(0, 0, 3, -1), 0);
    }

    private static void mendedSentences() {
        Check.sentence("mended: BAD", OtherBoundaryTests::mendedForms);
        Check.sentence("mended: i = -1, a line; BAD", OtherBoundaryTests::mendedLines);
        Check.sentence("mended: no line, one line", OtherBoundaryTests::mendedOfFewLines);
        Check.sentence("mended: NONE", OtherBoundaryTests::mendedOrNone);
        Check.sentence("mended: changed (or not)", OtherBoundaryTests::mendedNothing);
        Check.sentence("mended: all are changed", OtherBoundaryTests::mendedAll);
        Check.sentence("mended: others of their meaning", OtherBoundaryTests::mendedOfTheirMeaning);
        Check.sentence("mended: the fewest", OtherBoundaryTests::mendedTheFewest);
        Check.sentence("mended: letters a .. h", OtherBoundaryTests::mendedByAnyLetters);
        Check.sentence("mended: of several rows of words the first", OtherBoundaryTests::mendedTheFirst);
    }

    private static void shortestSentences() {
        Check.sentence("shortest: BAD", OtherBoundaryTests::shortestForms);
        Check.sentence("shortest: some things (bits 0 .. 1023); BAD", OtherBoundaryTests::shortestThings);
        Check.sentence("shortest: that of the stock at i (-5: not so many)", OtherBoundaryTests::shortestAt);
        Check.sentence("shortest: NONE", OtherBoundaryTests::shortestOrNone);
        Check.sentence("shortest: each once at most", OtherBoundaryTests::shortestEachOnce);
        Check.sentence("shortest: all of the stock", OtherBoundaryTests::shortestOfAllSix);
        Check.sentence("shortest: one of the fewest lines", OtherBoundaryTests::shortestTheFewest);
        Check.sentence("shortest: of several the first by numbers", OtherBoundaryTests::shortestTheFirst);
        Check.sentence("shortest: letters a .. h", OtherBoundaryTests::shortestByAnyLetters);
        Check.sentence("shortest: in a dialect", OtherBoundaryTests::shortestInADialect);
        Check.sentence("shortest: as a paper, whatever the paper", OtherBoundaryTests::shortestWhateverThePaper);
    }

    private static void twoSentences() {
        Check.sentence("both: BAD: fewer than two forms, too", OtherBoundaryTests::bothForms);
        Check.sentence("both: law by form 0 and by form 1", OtherBoundaryTests::bothOfLaw);
        Check.sentence("parting: BAD", OtherBoundaryTests::partingForms);
        Check.sentence("parting: NONE (also where it is not so)", OtherBoundaryTests::partingWhereItIsNotSo);
        Check.sentence("parting: by which alone; NONE", OtherBoundaryTests::partingNone);
        Check.sentence("parting: the least word of its lines", OtherBoundaryTests::partingTheLeast);
    }

    private static void forgedSentences() {
        Check.sentence("forged: BAD", OtherBoundaryTests::forgedForms);
        Check.sentence("forged: STATE: line k does not bind", OtherBoundaryTests::forgedState);
        Check.sentence("forged: FULL: the paper has 8", OtherBoundaryTests::forgedFull);
        Check.sentence("forged: the first of BAD, STATE, FULL", OtherBoundaryTests::forgedFirstRefusal);
        Check.sentence("forged: NONE", OtherBoundaryTests::forgedOrNone);
        Check.sentence("forged: the least p (0 .. how many)", OtherBoundaryTests::forgedTheLeastPlace);
        Check.sentence("forged: of several the least of the stock", OtherBoundaryTests::forgedTheLeastOfTheStock);
    }

    private static void burntSentences() {
        Check.sentence("burnt: -1: BAD", OtherBoundaryTests::burntForms);
        Check.sentence("burnt: i below -1, beyond, too", OtherBoundaryTests::burntLine);
        Check.sentence("burnt: lines that there are not are left out", OtherBoundaryTests::burntLinesThatThereAreNot);
        Check.sentence("burnt: letters a .. h, of the paper's lines alone", OtherBoundaryTests::burntByAnyLetters);
        Check.sentence("burnt: no line, one line", OtherBoundaryTests::burntOfFewLines);
        Check.sentence("burnt: in no way", OtherBoundaryTests::burntNoWays);
        Check.sentence("burnt: any word each", OtherBoundaryTests::burntAnyWord);
        Check.sentence("burnt: how many words line i may have", OtherBoundaryTests::burntWordsOfALine);
    }

    public static void main(String[] args) {
        mendedSentences();
        shortestSentences();
        twoSentences();
        forgedSentences();
        burntSentences();
        Check.end("OtherBoundaryTests");
    }
}

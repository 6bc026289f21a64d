import java.util.function.Supplier;

/** Each sentence that names a boundary of kinds, images, counts and the trace: promises 25 to 29. */
final class KindBoundaryTests {
    private static final int FAR = Integer.MAX_VALUE;
    private static final int LOW = Integer.MIN_VALUE;
    private static final int NO = -1000000;
    private static final int[] TOLLS = {1, 11, 101, 1101, 10011, 100001};
    private static final String WORDS = "word 0 0 0 1;word 0 0 9 4;";
    private static final String EIGHT = WORDS + "form a;" + Check.times("line 1 9 16;line 0 0 0;", 4);

    /** Eight lines, an image of them, then four; a metre, a trace, and some text. */
    private static RhymeLaw busy() {
        RhymeLaw x = Check.told(EIGHT);
        x.keep(0);
        while (x.count(2) > 4) {
            x.take(0);
        }
        x.metre(7, 7);
        x.rate(2, 0);
        Check.type(x, "form c;");
        return x;
    }

    private static RhymeLaw withoutLines() {
        RhymeLaw x = busy();
        while (x.count(2) > 0) {
            x.take(0);
        }
        return x;
    }

    // ---- promise 25: rate

    private static void rates(RhymeLaw x, int i, int... due) {
        for (int kind = 0; kind < 6; kind++) {
            long ahead = x.trace();
            Check.due("rate of line " + i + " as " + kind, x.rate(kind, i), due[kind]);
            Check.due("each body once, as " + kind, x.trace() - ahead, TOLLS[kind]);
        }
    }

    private static void rateOfTheGreatest() {
        RhymeLaw x = Check.told(EIGHT);
        rates(x, 0, 9, 13, 25, 50, 13, 0);
        rates(x, 6, 9, 13, 25, 50, 19, 0);
    }

    private static void rateOfTheLeast() {
        RhymeLaw x = Check.told(EIGHT);
        rates(x, 1, 0, 1, 0, 0, 2, 0);
        rates(x, 7, 0, 1, 0, 0, 8, 0);
        RhymeLaw below = Check.told("word 0 0 9 1;line 0 0 0;");
        rates(below, 0, 0, 1, 0, 0, 1, -9);
    }

    /** A line that falls may be rated as any kind, without a form, too. */
    private static void rateAsIf() {
        rates(Check.told("word 0 0 2 3;line 0 4 5;"), 0, 4, 7, 9, 18, 7, 2);
        rates(Check.told("word 0 0 2 3;form a;metre a 1;line 0 4 5;"), 0, 4, 7, 9, 18, 7, 2);
    }

    private static void rateOfKinds() {
        for (int wrong : new int[] {-1, 6, 7, FAR, LOW}) {
            Check.changesNothing("rate as " + wrong, KindBoundaryTests::busy, x -> x.rate(wrong, 0), NO);
        }
    }

    private static void rateOfLines() {
        Check.due("line 3 of four", busy().rate(0, 3), 0);
        for (int kind = 0; kind < 6; kind++) {
            int as = kind;
            for (int wrong : new int[] {-1, 4, 8, FAR, LOW}) {
                Check.changesNothing("rate of line " + wrong, KindBoundaryTests::busy, x -> x.rate(as, wrong), NO);
            }
            Check.changesNothing("rate of none", KindBoundaryTests::withoutLines, x -> x.rate(as, 0), NO);
        }
        Check.due("a new object", new RhymeLaw().rate(0, 0), NO);
    }

    // ---- promises 26, 27: keep, back

    private static void keepOfTwo() {
        RhymeLaw x = busy();
        Check.due("image 0", x.keep(0), 4);
        Check.due("image 1", x.keep(1), 4);
        for (int wrong : new int[] {-1, 2, 32, 33, FAR, LOW}) {
            Check.changesNothing("keep " + wrong, KindBoundaryTests::busy, y -> y.keep(wrong), -1);
        }
    }

    private static void keepOfAnyPaper() {
        RhymeLaw x = new RhymeLaw();
        Check.due("a new object", x.keep(0), 0);
        Check.due("it was kept", x.back(0), 0);
        RhymeLaw full = Check.told(EIGHT);
        Check.due("a full paper", full.keep(1), 8);
        Check.due("the other was not", full.back(0), -2);
        RhymeLaw none = withoutLines();
        Check.due("an empty paper", none.keep(1), 0);
        Check.due("the full one", none.back(0), 8);
        Check.due("the empty one", none.back(1), 0);
        Check.due("no lines", none.count(2), 0);
    }

    private static void keepChangesNothingElse() {
        RhymeLaw x = busy();
        Check.due("keep", x.keep(0), 4);
        Check.due("lines", x.count(2), 4);
        Check.due("the image is the paper now", x.back(0), 4);
        RhymeLaw y = busy();
        Check.due("keep in the other", y.keep(1), 4);
        Check.due("the first image stays", y.back(0), 8);
        Check.due("the second one", y.back(1), 4);
    }

    private static void keepNothingElseThanThePaper() {
        RhymeLaw x = Check.told(EIGHT + "stock 0 1 2;");
        x.keep(0);
        x.metre(0, 9);
        x.rate(0, 0);
        Check.type(x, "wo");
        Check.due("back", x.back(0), 8);
        Check.due("the metre stays", x.metre(0, 9), 9);
        Check.due("the trace goes on", x.trace(), 1);
        Check.due("the text stays", x.count(4), 2);
        Check.due("the stock stays", x.count(3), 1);
        Check.due("the words stay", x.count(0), 2);
        Check.due("the forms stay", x.count(1), 1);
    }

    private static void backOfTwo() {
        RhymeLaw x = busy();
        Check.due("image 0", x.back(0), 8);
        for (int wrong : new int[] {-1, 2, 32, 33, FAR, LOW}) {
            Check.changesNothing("back " + wrong, KindBoundaryTests::busy, y -> y.back(wrong), -1);
        }
    }

    private static void backOfNoneKept() {
        Check.changesNothing("none was kept in 1", KindBoundaryTests::busy, x -> x.back(1), -2);
        Supplier<RhymeLaw> bare = () -> Check.told(EIGHT);
        Check.changesNothing("none was kept", bare, x -> x.back(0), -2);
        Check.changesNothing("none was kept", bare, x -> x.back(1), -2);
        Check.changesNothing("BAD ahead of STATE", bare, x -> x.back(2), -1);
        Check.changesNothing("BAD ahead of STATE", bare, x -> x.back(-1), -1);
        Check.due("a new object", new RhymeLaw().back(0), -2);
    }

    private static void backIsThePaper() {
        RhymeLaw x = Check.told(WORDS + "form a;line 1 9 16;line 0 3 4;");
        x.keep(0);
        Check.due("change", x.change(0, 0), 1);
        Check.due("put", x.put(2, 1, 1, 1), 3);
        Check.due("back", x.back(0), 2);
        Check.due("word", x.line(0, 0), 1);
        Check.due("thing", x.line(1, 1), 3);
        Check.due("before", x.line(0, 2), 16);
        Check.due("no third line", x.line(2, 0), -1);
        x.change(0, 0);
        x.take(1);
        Check.due("back again", x.back(0), 2);
        Check.due("an image is no paper that changes", x.line(0, 0), 1);
        x.put(0, 0, 7, 7);
        Check.due("keep over it", x.keep(0), 3);
        Check.due("back", x.back(0), 3);
        Check.due("the new one", x.line(0, 1), 7);
    }

    private static void backFromFullAndEmpty() {
        RhymeLaw x = Check.told(EIGHT);
        x.keep(0);
        while (x.count(2) > 0) {
            x.take(0);
        }
        x.keep(1);
        Check.due("to full", x.back(0), 8);
        Check.due("no ninth", x.put(8, 0, 0, 0), -3);
        Check.due("to empty", x.back(1), 0);
        Check.due("nothing to take", x.take(0), -1);
        Check.due("to full", x.back(0), 8);
        Check.due("the eighth", x.line(7, 0), 0);
    }

    private static void imagesAreGone() {
        RhymeLaw x = busy();
        x.keep(1);
        Check.due("read", x.read(), 1);
        Check.due("image 0", x.back(0), -2);
        Check.due("image 1", x.back(1), -2);
        Check.due("the trace goes on", x.trace(), 101);
        Check.due("keep anew", x.keep(0), 0);
        Check.due("image 0", x.back(0), 0);
        Check.due("image 1", x.back(1), -2);
        Check.due("read of nothing", x.read(), 0);
        Check.due("gone by that, too", x.back(0), -2);
    }

    private static void imagesStayBehindAFault() {
        RhymeLaw x = busy();
        x.clear();
        Check.type(x, "form i;");
        Check.due("fault", x.read(), -15);
        Check.due("image 0", x.back(0), 8);
        Check.due("image 1", x.back(1), -2);
        Check.due("the trace", x.trace(), 101);
    }

    private static void imagesStayBehindClear() {
        RhymeLaw x = busy();
        Check.due("clear", x.clear(), 7);
        Check.due("image 0", x.back(0), 8);
    }

    // ---- promises 28, 29: count, trace

    private static void countOfWhat() {
        RhymeLaw x = busy();
        int[] counts = {2, 1, 4, 0, 7};
        for (int what = 0; what < 5; what++) {
            Check.due("count " + what, x.count(what), counts[what]);
        }
        for (int wrong : new int[] {-1, 5, FAR, LOW}) {
            Check.changesNothing("count " + wrong, KindBoundaryTests::busy, y -> y.count(wrong), -1);
        }
    }

    private static void countAtLeastAndAtMost() {
        RhymeLaw x = Check.told(Check.times("word 0 0 0 1;", 16) + "form a;form a;" + Check.times("line 0 0 0;", 8)
                + Check.times("stock 0 0 0;", 6));
        Check.type(x, Check.times(" ", 500));
        int[] counts = {16, 2, 8, 6, 500};
        for (int what = 0; what < 5; what++) {
            Check.due("the most " + what, x.count(what), counts[what]);
        }
        Check.due("read", x.read(), 0);
        for (int what = 0; what < 5; what++) {
            Check.due("the least " + what, x.count(what), 0);
        }
    }

    private static void traceAtFirst() {
        RhymeLaw x = new RhymeLaw();
        Check.due("a new object", x.trace(), 0);
        Check.due("again", x.trace(), 0);
        Check.due("refused", x.rate(0, 0), NO);
        Check.due("0 still", x.trace(), 0);
    }

    private static void traceGoesOn() {
        RhymeLaw x = Check.told(EIGHT);
        x.keep(0);
        x.rate(3, 0);
        Check.due("once", x.trace(), 1101);
        x.back(0);
        Check.due("behind back", x.trace(), 1101);
        x.clear();
        x.read();
        Check.due("behind read", x.trace(), 1101);
        Check.type(x, EIGHT);
        x.read();
        x.rate(4, 7);
        Check.due("both", x.trace(), 11112);
    }

    private static void traceOfNothingElse() {
        RhymeLaw x = Check.told(EIGHT + "form b;stock 0 0 0;");
        x.judged(0, 0, 0, 2);
        x.law(0, 0);
        x.bound(0, 0);
        x.key(0, 0);
        x.mended(0, 0, 0);
        x.shortest(0, 0, 0, -1);
        x.both(0);
        x.parting(0);
        x.forged(0, 0, 0);
        x.burnt(0, 0, 255, 0);
        x.keep(0);
        x.back(0);
        Check.due("trace", x.trace(), 0);
    }

    private static void traceOfManyCalls() {
        RhymeLaw x = Check.told("word 0 0 0 1;line 0 0 0;");
        for (int k = 0; k < 480; k++) {
            x.rate(5, 0);
        }
        Check.due("trace", x.trace(), 480L * 100001);
    }

    private static void rateSentences() {
        Check.sentence("rate: of the greatest thing, before, syllables, meaning", KindBoundaryTests::rateOfTheGreatest);
        Check.sentence("rate: of the least thing, before, syllables, meaning", KindBoundaryTests::rateOfTheLeast);
        Check.sentence("rate of a line as if of a kind", KindBoundaryTests::rateAsIf);
        Check.sentence("rate: kinds 0 .. 5; NO", KindBoundaryTests::rateOfKinds);
        Check.sentence("rate: of a line; NO", KindBoundaryTests::rateOfLines);
    }

    private static void imageSentences() {
        Check.sentence("images 0, 1; keep: BAD", KindBoundaryTests::keepOfTwo);
        Check.sentence("keep: how many lines: none, all", KindBoundaryTests::keepOfAnyPaper);
        Check.sentence("keep: an image is kept", KindBoundaryTests::keepChangesNothingElse);
        Check.sentence("images keep the paper; nothing else", KindBoundaryTests::keepNothingElseThanThePaper);
        Check.sentence("images 0, 1; back: BAD", KindBoundaryTests::backOfTwo);
        Check.sentence("back: STATE: none was kept", KindBoundaryTests::backOfNoneKept);
        Check.sentence("back: the paper becomes as an image has it", KindBoundaryTests::backIsThePaper);
        Check.sentence("back: from full to empty to full", KindBoundaryTests::backFromFullAndEmpty);
        Check.sentence("read anew: images are gone", KindBoundaryTests::imagesAreGone);
        Check.sentence("a fault: nothing changes, images neither", KindBoundaryTests::imagesStayBehindAFault);
        Check.sentence("clear: images stay", KindBoundaryTests::imagesStayBehindClear);
    }

    private static void countSentences() {
        Check.sentence("count: what 0 .. 4; BAD", KindBoundaryTests::countOfWhat);
        Check.sentence("count: of the least, of the most", KindBoundaryTests::countAtLeastAndAtMost);
        Check.sentence("the trace: 0 at first", KindBoundaryTests::traceAtFirst);
        Check.sentence("the trace goes on, as behind back()", KindBoundaryTests::traceGoesOn);
        Check.sentence("the trace: rate() alone adds to it", KindBoundaryTests::traceOfNothingElse);
        Check.sentence("the trace of many calls", KindBoundaryTests::traceOfManyCalls);
    }

    public static void main(String[] args) {
        rateSentences();
        imageSentences();
        countSentences();
        Check.end("KindBoundaryTests");
    }
}

import java.util.function.IntToLongFunction;
import java.util.function.Supplier;

/** Each sentence that names a boundary of what is judged, bound, struck: promises 13 to 18. */
final class JudgedBoundaryTests {
    private static final int FAR = Integer.MAX_VALUE;
    private static final int LOW = Integer.MIN_VALUE;

    // Words 0 and 1 sound alike in dialect 0 only, 2 and 3 in both, 4 as 2 and 3, with four syllables.
    private static final String WORDS =
            "word 0 0 0 1;word 0 1 0 1;word 2 2 0 1;word 2 2 0 1;word 2 2 0 4;";

    private static String lines(int... words) {
        StringBuilder text = new StringBuilder();
        for (int i = 0; i < words.length; i++) {
            text.append("line ").append(words[i]).append(' ').append(i).append(" 0;");
        }
        return text.toString();
    }

    private static RhymeLaw paper(String forms, int... words) {
        return Check.told(WORDS + forms + lines(words));
    }

    /** Eight lines of one letter, by turns: each is the anchor of the next. */
    private static RhymeLaw chain() {
        return paper("form a;", 2, 3, 2, 3, 2, 3, 2, 3);
    }

    private static RhymeLaw sample() {
        RhymeLaw x = paper("form ab;form aabb;", 0, 2, 1, 3);
        x.rate(0, 0);
        x.keep(0);
        x.metre(7, 7);
        Check.type(x, "form c;");
        return x;
    }

    private static void bad(String call, IntToLongFunction ask, int... wrong) {
        for (int n : wrong) {
            Check.due(call + " " + n, ask.applyAsLong(n), -1);
        }
    }

    /** What each line is: - falls, o opens, O opens and binds, or its anchor. */
    private static void judgedAs(RhymeLaw x, int f, int d, String due) {
        for (int i = 0; i < due.length(); i++) {
            char sign = due.charAt(i);
            boolean opens = sign == 'o' || sign == 'O';
            Check.due("stands " + i, x.judged(f, d, i, 0), sign == '-' ? 0 : 1);
            Check.due("opens " + i, x.judged(f, d, i, 1), opens ? 1 : 0);
            Check.due("binds " + i, x.judged(f, d, i, 2), sign == '-' || sign == 'o' ? 0 : 1);
            Check.due("anchor " + i, x.judged(f, d, i, 3), sign == '-' || opens ? -9 : sign - '0');
        }
        Check.due("no line behind", x.judged(f, d, due.length(), 0), -1);
    }

    // ---- promise 13: judged

    private static void judgedForms() {
        RhymeLaw x = sample();
        Check.due("form 0", x.judged(0, 0, 2, 3), 0);
        Check.due("form 1", x.judged(1, 0, 2, 3), -9);
        bad("form", f -> x.judged(f, 0, 0, 0), -1, 2, FAR, LOW);
        RhymeLaw one = paper("form a;", 0);
        Check.due("the only form", one.judged(0, 0, 0, 0), 1);
        bad("form", f -> one.judged(f, 0, 0, 0), -1, 1, 2);
        RhymeLaw none = paper("", 0);
        bad("form", f -> none.judged(f, 0, 0, 0), -1, 0, 1);
    }

    private static void judgedDialects() {
        RhymeLaw x = sample();
        Check.due("dialect 0", x.judged(0, 0, 2, 0), 1);
        Check.due("dialect 1", x.judged(0, 1, 2, 0), 0);
        bad("dialect", d -> x.judged(0, d, 0, 0), -1, 2, 3, FAR, LOW);
    }

    private static void judgedLines() {
        RhymeLaw x = chain();
        Check.due("line 0", x.judged(0, 0, 0, 0), 1);
        Check.due("line 7", x.judged(0, 0, 7, 3), 6);
        bad("line", i -> x.judged(0, 0, i, 0), -1, 8, FAR, LOW);
        RhymeLaw four = sample();
        bad("line", i -> four.judged(0, 0, i, 0), -1, 4, 7);
        RhymeLaw none = paper("form a;");
        bad("line", i -> none.judged(0, 0, i, 0), -1, 0);
    }

    private static void judgedWhat() {
        RhymeLaw x = sample();
        Check.due("what 0", x.judged(0, 0, 0, 0), 1);
        Check.due("what 3", x.judged(0, 0, 3, 3), 1);
        bad("what", what -> x.judged(0, 0, 0, what), -1, 4, FAR, LOW);
        Check.changesNothing("what 4", JudgedBoundaryTests::sample, y -> y.judged(0, 0, 0, 4), -1);
        Check.changesNothing("an anchor", JudgedBoundaryTests::sample, y -> y.judged(0, 0, 3, 3), 1);
    }

    private static void anchorOrNone() {
        judgedAs(paper("form a;", 2, 0, 3), 0, 0, "O-0");
        judgedAs(paper("form a;", 2), 0, 0, "o");
        judgedAs(paper("form a;", 2, 0), 0, 0, "o-");
    }

    private static void metreOfZeroIsAny() {
        RhymeLaw x = Check.told("word 2 2 0 1;word 2 2 0 4;form a;line 0 0 0;line 1 0 16;line 0 0 0;");
        judgedAs(x, 0, 0, "O01");
        x.metre(0, 20);
        judgedAs(x, 0, 0, "-o-");
        x.metre(0, 0);
        judgedAs(x, 0, 0, "O01");
    }

    private static void metreIsBeforeAndSyllables() {
        for (int syllables = 1; syllables <= 4; syllables++) {
            for (int before = 0; before <= 16; before += 4) {
                RhymeLaw x = Check.told("word 2 2 0 " + syllables + ";form a;line 0 0 " + before + ";");
                for (int metre = 0; metre <= 20; metre++) {
                    x.metre(0, metre);
                    boolean fits = metre == 0 || metre == before + syllables;
                    Check.due(before + " and " + syllables + " by " + metre, x.judged(0, 0, 0, 0), fits ? 1 : 0);
                }
            }
        }
    }

    private static void metreOfItsLetter() {
        RhymeLaw x = paper("form ah;", 2, 2, 3, 3);
        x.metre(0, 1);
        judgedAs(x, 0, 0, "OO01");
        x.metre(7, 2);
        judgedAs(x, 0, 0, "O-0-");
        x.metre(1, 9);
        judgedAs(x, 0, 0, "O-0-");
        x.metre(0, 2);
        judgedAs(x, 0, 0, "----");
    }

    private static void opensIfNoneStandsAhead() {
        RhymeLaw x = paper("form a;metre a 1;", 4, 4, 2, 4, 3);
        judgedAs(x, 0, 0, "--O-2");
        judgedAs(paper("form ab;", 2, 2), 0, 0, "oo");
        judgedAs(paper("form abcdefgh;", 2, 2, 2, 2, 3, 3, 3, 3), 0, 0, "oooooooo");
    }

    private static void theNearestThatStands() {
        judgedAs(paper("form a;", 2, 0, 0, 3, 0, 2), 0, 0, "O--0-3");
        judgedAs(chain(), 0, 0, "O0123456");
        judgedAs(paper("form aab;", 2, 3, 0, 2, 3, 1), 0, 0, "O0O132");
    }

    private static void anotherWord() {
        judgedAs(paper("form a;", 2, 2), 0, 0, "o-");
        judgedAs(paper("form a;", 2, 2, 3), 0, 0, "O-0");
        judgedAs(paper("form a;", 2, 3, 2), 0, 0, "O01");
        judgedAs(paper("form a;", 2, 3, 3, 2), 0, 0, "O0-1");
    }

    private static void theSameSound() {
        RhymeLaw x = paper("form a;", 0, 1);
        judgedAs(x, 0, 0, "O0");
        judgedAs(x, 0, 1, "o-");
        RhymeLaw ends = Check.told("word 0 25 0 1;word 0 24 0 1;word 1 25 0 1;form a;line 0 0 0;line 1 0 0;line 2 0 0;");
        judgedAs(ends, 0, 0, "O0-");
        judgedAs(ends, 0, 1, "O-0");
    }

    private static void theFormGoesOn() {
        RhymeLaw x = paper("form abc;", 2, 2, 2, 3, 3, 3, 2, 2);
        judgedAs(x, 0, 0, "OOO01234");
        judgedAs(paper("form h;", 2, 3, 2, 3), 0, 0, "O012");
        judgedAs(paper("form hga;", 2, 3, 2, 3, 2, 3), 0, 0, "OOO012");
        RhymeLaw seven = paper("form abcdefg;", 2, 2, 2, 2, 2, 2, 2, 3);
        judgedAs(seven, 0, 0, "Ooooooo0");
    }

    // ---- promises 14, 15: law, empty

    private static void lawForms() {
        RhymeLaw x = sample();
        Check.due("law", x.law(0, 0), 1);
        Check.due("no law", x.law(1, 0), 0);
        bad("form", f -> x.law(f, 0), -1, 2, FAR, LOW);
        bad("dialect", d -> x.law(0, d), -1, 2, FAR, LOW);
        RhymeLaw none = paper("", 2, 3);
        bad("form", f -> none.law(f, 0), 0, 1);
        Check.changesNothing("law", JudgedBoundaryTests::sample, y -> y.law(0, 0), 1);
        Check.changesNothing("law", JudgedBoundaryTests::sample, y -> y.law(2, 0), -1);
    }

    private static void lawOfNoLine() {
        Check.due("no line", paper("form a;").law(0, 0), 0);
        RhymeLaw x = paper("form a;", 2, 3);
        Check.due("two", x.law(0, 0), 1);
        x.take(1);
        Check.due("one", x.law(0, 0), 0);
        x.take(0);
        Check.due("none", x.law(0, 0), 0);
    }

    private static void lawIfAllBind() {
        Check.due("eight", chain().law(0, 0), 1);
        for (int i = 0; i < 8; i++) {
            RhymeLaw x = chain();
            x.change(i, 0);
            Check.due("all but " + i, x.law(0, 0), 0);
        }
        Check.due("four letters", paper("form abcd;", 0, 2, 2, 2, 1, 3, 3, 3).law(0, 0), 1);
        Check.due("the last alone", paper("form aab;", 2, 3, 2).law(0, 0), 0);
        Check.due("eight that open", paper("form abcdefgh;", 2, 2, 2, 2, 3, 3, 3, 3).law(0, 0), 0);
    }

    private static void emptyForms() {
        RhymeLaw x = sample();
        Check.due("form 1", x.empty(1, 0), 0);
        bad("form", f -> x.empty(f, 0), -1, 2, FAR, LOW);
        bad("dialect", d -> x.empty(0, d), -1, 2, FAR, LOW);
        RhymeLaw none = paper("", 2, 3);
        bad("form", f -> none.empty(f, 0), 0, 1);
        Check.changesNothing("empty", JudgedBoundaryTests::sample, y -> y.empty(0, 1), 0);
        Check.changesNothing("empty", JudgedBoundaryTests::sample, y -> y.empty(2, 1), -1);
    }

    private static void emptyOrNone() {
        Check.due("no lines", paper("form a;").empty(0, 0), -9);
        Check.due("all bind", chain().empty(0, 0), -9);
        Check.due("one line", paper("form a;", 2).empty(0, 0), 0);
    }

    private static void emptyIsTheFirst() {
        Check.due("the first of all", paper("form abcdefgh;", 2, 2, 2, 2, 2, 2, 2, 2).empty(0, 0), 0);
        Check.due("the last", paper("form a;", 2, 3, 2, 3, 2, 3, 2, 0).empty(0, 0), 7);
        Check.due("one between, of two", paper("form a;", 2, 3, 0, 2, 1, 3).empty(0, 0), 2);
        Check.due("one that opens and anchors none", paper("form aba;", 2, 2, 3).empty(0, 0), 1);
    }

    // ---- promise 16: bound

    private static void boundForms() {
        RhymeLaw x = sample();
        Check.due("all", x.bound(0, 0), 15);
        bad("form", f -> x.bound(f, 0), -1, 2, FAR, LOW);
        bad("dialect", d -> x.bound(0, d), -1, 2, FAR, LOW);
        RhymeLaw none = paper("", 2, 3);
        bad("form", f -> none.bound(f, 0), 0, 1);
        Check.changesNothing("bound", JudgedBoundaryTests::sample, y -> y.bound(0, 0), 15);
        Check.changesNothing("bound", JudgedBoundaryTests::sample, y -> y.bound(2, 0), -1);
    }

    private static void boundAsBits() {
        Check.due("no lines", paper("form a;").bound(0, 0), 0);
        Check.due("none that binds", paper("form ab;", 2, 2).bound(0, 0), 0);
        Check.due("eight", chain().bound(0, 0), 255);
        RhymeLaw ends = Check.told(WORDS + "form a;line 2 0 0;line 3 9 0;");
        Check.due("things 0 and 9", ends.bound(0, 0), 513);
        RhymeLaw same = Check.told(WORDS + "form a;line 2 9 0;line 3 9 0;line 2 9 0;");
        Check.due("one thing of several", same.bound(0, 0), 512);
        RhymeLaw some = Check.told(WORDS + "form ab;line 2 1 0;line 0 2 0;line 3 3 0;line 2 4 0;");
        Check.due("just of those that bind", some.bound(0, 0), 10);
    }

    // ---- promise 17: struck

    private static void struckForms() {
        RhymeLaw x = sample();
        Check.due("none struck", x.struck(0, 0, 0), 15);
        bad("form", f -> x.struck(f, 0, 0), -1, 2, FAR, LOW);
        bad("dialect", d -> x.struck(0, d, 0), -1, 2, FAR, LOW);
        RhymeLaw none = paper("", 2, 3);
        bad("form", f -> none.struck(f, 0, 0), 0, 1);
        Check.changesNothing("struck", JudgedBoundaryTests::sample, y -> y.struck(0, 0, 1), 10);
        Check.changesNothing("struck", JudgedBoundaryTests::sample, y -> y.struck(2, 0, 1), -1);
    }

    private static void struckEachOfEight() {
        RhymeLaw x = chain();
        int[] left = {0, 0, 3, 7, 15, 31, 63, 127};
        for (int i = 0; i < 8; i++) {
            Check.due("struck " + i, x.struck(0, 0, 1 << i), left[i]);
        }
        Check.due("none struck", x.struck(0, 0, 0), 255);
        Check.due("all struck", x.struck(0, 0, 255), 0);
        Check.due("two struck", x.struck(0, 0, 1 << 7 | 1 << 4), 15);
    }

    private static void struckLinesThatThereAreNot() {
        RhymeLaw x = chain();
        for (int set : new int[] {256, 512, 1 << 30, LOW, -256, FAR - 255}) {
            Check.due("struck " + set, x.struck(0, 0, set), 255);
        }
        Check.due("all bits", x.struck(0, 0, -1), 0);
        Check.due("one that there is, too", x.struck(0, 0, 256 | 128), 127);
        Check.due("one that there is, too", x.struck(0, 0, -256 | 64), 63);
        RhymeLaw two = paper("form a;", 2, 3);
        Check.due("behind two", two.struck(0, 0, 4), 3);
        Check.due("all behind two", two.struck(0, 0, -4), 3);
        RhymeLaw none = paper("form a;");
        Check.due("no lines", none.struck(0, 0, 0), 0);
        Check.due("no lines", none.struck(0, 0, -1), 0);
    }

    /** Lines that were taken out, or put in by a forger, are none of the paper's. */
    private static void struckLinesThatThereWere() {
        RhymeLaw x = chain();
        Check.due("eight", x.struck(0, 0, 0), 255);
        for (int lines = 7; lines >= 2; lines--) {
            x.take(lines);
            Check.due("struck none of " + lines, x.struck(0, 0, 0), (1 << lines) - 1);
            Check.due("bound of " + lines, x.bound(0, 0), (1 << lines) - 1);
            Check.due("empty of " + lines, x.empty(0, 0), -9);
            Check.due("key of " + lines, x.key(0, 0), 0);
        }
        x.take(1);
        Check.due("one line", x.struck(0, 0, 0), 0);
        Check.due("its bound", x.bound(0, 0), 0);
        x.take(0);
        Check.due("no lines", x.struck(0, 0, 0), 0);
        Check.due("no key", x.key(0, 0), -9);
    }

    private static void struckOnesThatDoNotBind() {
        RhymeLaw x = paper("form ab;", 2, 0, 3, 2);
        Check.due("none struck", x.struck(0, 0, 0), 5);
        Check.due("one that opens, and anchors none", x.struck(0, 0, 2), 5);
        Check.due("one that falls", x.struck(0, 0, 8), 5);
        Check.due("both", x.struck(0, 0, 10), 5);
        Check.due("the anchor", x.struck(0, 0, 1), 0);
    }

    private static void leftIfItAnchorsOne() {
        RhymeLaw x = paper("form a;", 2, 3, 2);
        Check.due("the opening's only one", x.struck(0, 0, 2), 0);
        Check.due("a rhymed one that anchors none is left", x.struck(0, 0, 4), 3);
        RhymeLaw y = paper("form ab;", 2, 0, 3, 1);
        Check.due("one letter", y.struck(0, 0, 4), 10);
        Check.due("the other", y.struck(0, 0, 8), 5);
        Check.due("of both", y.struck(0, 0, 12), 0);
        Check.due("of both", y.struck(0, 0, 3), 0);
    }

    // ---- promise 18: key

    private static void keyForms() {
        RhymeLaw x = sample();
        Check.due("key", x.key(0, 0), 0);
        bad("form", f -> x.key(f, 0), -1, 2, FAR, LOW);
        bad("dialect", d -> x.key(0, d), -1, 2, FAR, LOW);
        RhymeLaw none = paper("", 2, 3);
        bad("form", f -> none.key(f, 0), 0, 1);
        Check.changesNothing("key", JudgedBoundaryTests::sample, y -> y.key(0, 1), 1);
        Check.changesNothing("key", JudgedBoundaryTests::sample, y -> y.key(0, 2), -1);
    }

    private static void keyOrNone() {
        Supplier<RhymeLaw> none = () -> paper("form a;");
        Check.changesNothing("no lines", none, x -> x.key(0, 0), -9);
        Check.due("one line", paper("form a;", 2).key(0, 0), 0);
        Check.due("lines that do not bind", paper("form ab;", 2, 2).key(0, 0), 0);
        RhymeLaw taken = paper("form a;", 2);
        taken.take(0);
        Check.due("no lines left", taken.key(0, 0), -9);
    }

    private static void keyOfSeveralTheLeast() {
        Check.due("all the same", paper("form a;", 2, 3).key(0, 0), 0);
        Check.due("line 0 and line 1", chain().key(0, 0), 0);
        Check.due("line 1 and line 3", paper("form ab;", 0, 2, 2, 3).key(0, 0), 1);
        Check.due("line 6 and line 7", paper("form abcdefgg;", 2, 2, 2, 2, 2, 2, 2, 3).key(0, 0), 6);
    }

    private static void keyLeavesTheFewest() {
        Check.due("the longer letter", paper("form abb;", 0, 2, 3, 1, 2, 3).key(0, 0), 1);
        Check.due("the greatest key", paper("form abbcccdd;", 0, 2, 0, 2, 0, 0, 2, 3).key(0, 0), 6);
        Check.due("one that falls is none", paper("form a;", 2, 0, 3).key(0, 0), 0);
    }

    private static void judgedSentences() {
        Check.sentence("judged: by a form f (BAD: no such one)", JudgedBoundaryTests::judgedForms);
        Check.sentence("judged: in a dialect d (BAD: no such one)", JudgedBoundaryTests::judgedDialects);
        Check.sentence("judged: of a line; BAD", JudgedBoundaryTests::judgedLines);
        Check.sentence("judged: what 0 .. 3; BAD", JudgedBoundaryTests::judgedWhat);
        Check.sentence("judged: its anchor; NONE", JudgedBoundaryTests::anchorOrNone);
        Check.sentence("its metre is not 0", JudgedBoundaryTests::metreOfZeroIsAny);
        Check.sentence("its metre is not before and syllables together: it falls",
                JudgedBoundaryTests::metreIsBeforeAndSyllables);
        Check.sentence("the metre of its letter", JudgedBoundaryTests::metreOfItsLetter);
        Check.sentence("if no line ahead with its letter stands, it opens", JudgedBoundaryTests::opensIfNoneStandsAhead);
        Check.sentence("the nearest one ahead with its letter that stands", JudgedBoundaryTests::theNearestThatStands);
        Check.sentence("another word", JudgedBoundaryTests::anotherWord);
        Check.sentence("the same sound", JudgedBoundaryTests::theSameSound);
        Check.sentence("behind the last letter it goes on from the first", JudgedBoundaryTests::theFormGoesOn);
    }

    private static void lawSentences() {
        Check.sentence("law: BAD", JudgedBoundaryTests::lawForms);
        Check.sentence("law, if it has a line", JudgedBoundaryTests::lawOfNoLine);
        Check.sentence("law, if all bind", JudgedBoundaryTests::lawIfAllBind);
        Check.sentence("empty: BAD", JudgedBoundaryTests::emptyForms);
        Check.sentence("empty: NONE", JudgedBoundaryTests::emptyOrNone);
        Check.sentence("empty: the first line that does not bind", JudgedBoundaryTests::emptyIsTheFirst);
        Check.sentence("bound: BAD", JudgedBoundaryTests::boundForms);
        Check.sentence("bound: things of all that bind, as bits", JudgedBoundaryTests::boundAsBits);
    }

    private static void struckSentences() {
        Check.sentence("struck: BAD", JudgedBoundaryTests::struckForms);
        Check.sentence("struck: each of which the anchor lapses", JudgedBoundaryTests::struckEachOfEight);
        Check.sentence("struck: those that there are not are left out", JudgedBoundaryTests::struckLinesThatThereAreNot);
        Check.sentence("struck: lines that there are no more", JudgedBoundaryTests::struckLinesThatThereWere);
        Check.sentence("left: those that bind", JudgedBoundaryTests::struckOnesThatDoNotBind);
        Check.sentence("left: if they open, the anchor of one that did not lapse", JudgedBoundaryTests::leftIfItAnchorsOne);
        Check.sentence("key: BAD", JudgedBoundaryTests::keyForms);
        Check.sentence("key: NONE (no lines)", JudgedBoundaryTests::keyOrNone);
        Check.sentence("key: of several the least", JudgedBoundaryTests::keyOfSeveralTheLeast);
        Check.sentence("key: the fewest are left", JudgedBoundaryTests::keyLeavesTheFewest);
    }

    public static void main(String[] args) {
        judgedSentences();
        lawSentences();
        struckSentences();
        Check.end("JudgedBoundaryTests");
    }
}

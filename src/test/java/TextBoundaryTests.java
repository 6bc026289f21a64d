import java.util.function.Supplier;

/** Each sentence that names a boundary of THE TEXT, of its ITEMS and TOKENS, of FAULT: promises 2, 3, 4. */
final class TextBoundaryTests {
    private static final String WORD = "word 0 0 0 1;";
    private static final String STANDING =
            "word 1 2 3 4;word 4 3 2 1;form abc;metre c 9;line 1 2 3;line 0 4 5;stock 1 6 7;stock 0 8 9;";
    private static final String[] NAMES = {"word", "form", "metre", "line", "stock"};
    private static final int FAR = Integer.MAX_VALUE;
    private static final int LOW = Integer.MIN_VALUE;

    /** An object that holds something of every sort, and some text. */
    private static RhymeLaw busy(String text) {
        RhymeLaw x = Check.told(STANDING);
        x.keep(1);
        x.take(0);
        x.metre(7, 20);
        x.rate(5, 0);
        Check.type(x, text);
        return x;
    }

    /** The sign ^ stands ahead of the faulty token, or behind all, and is no part of the text. */
    private static void fault(String marked) {
        int place = marked.indexOf('^');
        String text = marked.substring(0, place) + marked.substring(place + 1);
        Check.changesNothing("read of '" + marked + "'", () -> busy(text), x -> x.read(), -10 - place);
    }

    private static RhymeLaw reads(String text, int items) {
        RhymeLaw x = busy(text);
        Check.due("bytes of '" + text + "'", x.count(4), text.length());
        Check.due("read of '" + text + "'", x.read(), items);
        Check.due("the text is empty then", x.count(4), 0);
        return x;
    }

    private static void word(RhymeLaw x, int w, int... parts) {
        for (int what = 0; what < 4; what++) {
            Check.due("word " + w + " " + what, x.word(w, what), parts[what]);
        }
    }

    private static void line(RhymeLaw x, int i, int... parts) {
        for (int what = 0; what < 3; what++) {
            Check.due("line " + i + " " + what, x.line(i, what), parts[what]);
        }
    }

    private static void stock(RhymeLaw x, int i, int... parts) {
        for (int what = 0; what < 3; what++) {
            Check.due("stock " + i + " " + what, x.stock(i, what), parts[what]);
        }
    }

    /** A text of so many bytes that reads well: one item and blanks. */
    private static String longText(int bytes) {
        return "form h;" + Check.times(" ", bytes - 7);
    }

    // ---- promise 2: type

    private static void typeOneToEight() {
        for (int n = 1; n <= 8; n++) {
            Check.due("type of " + n, new RhymeLaw().type(0, n), n);
        }
        Check.changesNothing("type of 0", () -> busy(WORD), x -> x.type(0x20, 0), -1);
        Check.changesNothing("type of 9", () -> busy(WORD), x -> x.type(0x20, 9), -1);
        Check.changesNothing("type of -1", () -> busy(WORD), x -> x.type(0x20, -1), -1);
        Check.changesNothing("type of the most", () -> busy(WORD), x -> x.type(0x20, FAR), -1);
        Check.changesNothing("type of the least", () -> busy(WORD), x -> x.type(0x20, LOW), -1);
    }

    /** What is typed shows by what it tells: the text "form " and letters, the last n bytes of "hgfedcba". */
    private static void typeLowestBytes() {
        for (int n = 1; n <= 8; n++) {
            RhymeLaw x = new RhymeLaw();
            Check.type(x, "form ");
            Check.due("type of " + n, x.type(Check.packed("hgfedcba"), n), 5 + n);
            Check.type(x, ";");
            Check.due("read", x.read(), 1);
            for (int i = 0; i < n; i++) {
                Check.due("letter " + i + " of " + n, x.form(0, i), n - 1 - i);
            }
            Check.due("it goes on from the first", x.form(0, n), n - 1);
        }
    }

    private static void typeAnyLong() {
        long[] values = {0, -1, 1, Long.MAX_VALUE, Long.MIN_VALUE, 0x8000000000000000L, 0x20202020202020FFL};
        for (long v : values) {
            for (int n = 1; n <= 8; n++) {
                RhymeLaw x = new RhymeLaw();
                Check.due("type " + v + " of " + n, x.type(v, n), n);
            }
        }
        RhymeLaw x = new RhymeLaw();
        Check.due("a blank below other bytes", x.type(0xFFFFFFFFFFFFFF20L, 1), 1);
        Check.due("is a blank", x.read(), 0);
        Check.due("all of -1", x.type(-1L, 8), 8);
        Check.due("begins no token", x.read(), -10);
    }

    private static void typeUpToFiveHundred() {
        for (int n = 1; n <= 8; n++) {
            RhymeLaw x = new RhymeLaw();
            Check.type(x, longText(500 - n));
            Check.due("type of " + n + " up to 500", x.type(Check.packed("        "), n), 500);
            Check.due("500 bytes are read", x.read(), 1);
        }
    }

    private static void typeBeyondIsFull() {
        for (int n = 1; n <= 8; n++) {
            int bytes = n;
            Supplier<RhymeLaw> almost = () -> busy(longText(501 - bytes));
            Check.changesNothing("type of " + n + " up to 501", almost, x -> x.type(0x20, bytes), -3);
        }
        Check.changesNothing("type of 1 behind 500", () -> busy(longText(500)), x -> x.type(0x20, 1), -3);
        Check.changesNothing("type of 8 behind 500", () -> busy(longText(500)), x -> x.type(0x20, 8), -3);
        RhymeLaw x = busy(longText(493));
        Check.due("eight are too many", x.type(0x20, 8), -3);
        Check.due("seven are not", x.type(Check.packed("       "), 7), 500);
    }

    private static void typeBadAheadOfFull() {
        Check.changesNothing("type of 9 behind 500", () -> busy(longText(500)), x -> x.type(0x20, 9), -1);
        Check.changesNothing("type of 0 behind 500", () -> busy(longText(500)), x -> x.type(0x20, 0), -1);
        Check.changesNothing("type of the least behind 500", () -> busy(longText(500)), x -> x.type(0x20, LOW), -1);
    }

    // ---- promise 3: clear

    private static void clearOfEmpty() {
        Check.due("clear of a new object", new RhymeLaw().clear(), 0);
        Check.changesNothing("clear of no text", () -> busy(""), x -> x.clear(), 0);
    }

    private static void clearOfFull() {
        RhymeLaw x = busy(longText(500));
        Check.due("clear", x.clear(), 500);
        Check.due("bytes", x.count(4), 0);
        Check.due("clear again", x.clear(), 0);
        Check.due("type anew", x.type(0x20, 8), 8);
        RhymeLaw one = new RhymeLaw();
        one.type(0, 1);
        Check.due("clear of one byte", one.clear(), 1);
    }

    private static void clearLeavesTheRest() {
        String[] other = Snapshot.of(busy(""));
        RhymeLaw x = busy("word 0");
        Check.due("clear", x.clear(), 6);
        Check.holds("nothing but the text", String.join(",", Snapshot.of(x)).equals(String.join(",", other)));
    }

    private static void clearBehindFault() {
        RhymeLaw x = busy("wood 0 0 0 1;");
        Check.due("fault", x.read(), -10);
        Check.due("clear", x.clear(), 13);
        Check.type(x, WORD);
        Check.due("read", x.read(), 1);
    }

    // ---- promise 4: read

    private static void readOfNothing() {
        RhymeLaw x = reads("", 0);
        for (int what = 0; what < 5; what++) {
            Check.due("count " + what, x.count(what), 0);
        }
        for (int letter = 0; letter < 8; letter++) {
            Check.due("metre " + letter, x.metre(letter, 0), 0);
        }
        Check.due("images are gone", x.back(1), -2);
        Check.due("the trace goes on", x.trace(), 100001);
        Check.due("read of a new object", new RhymeLaw().read(), 0);
    }

    private static void readTellsAllAnew() {
        RhymeLaw x = busy("word 5 6 7 1;form hg;metre a 1;");
        Check.due("read", x.read(), 3);
        Check.due("words", x.count(0), 1);
        word(x, 0, 5, 6, 7, 1);
        Check.due("no second word", x.word(1, 0), -1);
        Check.due("forms", x.count(1), 1);
        Check.due("its letters", x.form(0, 2), 7);
        Check.due("no lines", x.count(2), 0);
        Check.due("no stock", x.count(3), 0);
        Check.due("its metre", x.metre(0, 0), 1);
        Check.due("another metre is any", x.metre(2, 0), 0);
        Check.due("one that was set is any", x.metre(7, 0), 0);
        Check.due("images are gone", x.back(1), -2);
        Check.due("the trace goes on", x.trace(), 100001);
    }

    /** Whatever a reading leaves behind, none of the next ones knows of it. */
    private static void readTellsAllAnewEachTime() {
        RhymeLaw x = new RhymeLaw();
        String full = Check.times(WORD, 16) + "form abcdefgh;form hg;metre a 5;metre h 6;"
                + Check.times("line 15 9 16;", 8) + "stock 3 3 3;";
        for (int round = 0; round < 4; round++) {
            Check.type(x, full);
            Check.due("read all", x.read(), 29);
            Check.due("eight letters", x.form(0, 7), 7);
            for (String letters : new String[] {"d", "cb"}) {
                Check.type(x, "form " + letters + ";");
                Check.due("read little", x.read(), 1);
                Check.due("metre a", x.metre(0, 9), 0);
                Check.due("metre h", x.metre(7, 9), 0);
                for (int i = 0; i < 4; i++) {
                    Check.due("letter " + i, x.form(0, i), letters.charAt(i % letters.length()) - 'a');
                }
                Check.due("no second form", x.form(1, 0), -1);
                Check.due("counts", x.count(0) + x.count(2) + x.count(3), 0);
            }
        }
    }

    private static void readNothingStaysOfAFault() {
        RhymeLaw x = busy("word 9 9 9 1;form h;metre a 7;line 0 0 0;stock 0 0 0;x");
        Check.due("fault", x.read(), -10 - 53);
        Check.due("clear", x.clear(), 54);
        Check.type(x, "metre b 1;");
        Check.due("read", x.read(), 1);
        Check.due("words", x.count(0), 0);
        Check.due("forms", x.count(1), 0);
        Check.due("lines", x.count(2), 0);
        Check.due("stock", x.count(3), 0);
        Check.due("metre", x.metre(0, 0), 0);
    }

    private static void readOfFaultAgain() {
        RhymeLaw x = busy("word 0 0 0 1;;");
        Check.due("fault", x.read(), -23);
        Check.due("the text stays", x.count(4), 14);
        Check.due("fault again", x.read(), -23);
        Check.due("words stay", x.count(0), 2);
    }

    private static void readFaultCanBeTypedOn() {
        RhymeLaw x = busy("word 0 0 0");
        Check.due("too early", x.read(), -20);
        Check.type(x, " 1;");
        Check.due("now it is whole", x.read(), 1);
        Check.due("one word", x.count(0), 1);
    }

    private static void readFullText() {
        String items = Check.times("metre a0;", 55);
        reads(items + "     ", 55);
        fault(items.substring(0, 494) + "^x     ");
        fault(items + "    ^x");
        fault(items + "form ^");
        fault(Check.times(" ", 499) + "^;");
        reads(Check.times(" ", 500), 0);
        fault("word" + Check.times(" ", 496) + "^");
    }

    // ---- the text's bytes and blanks

    private static void blanksOfAnyNumber() {
        word(reads("   word   1   2   3   4   ;   ", 1), 0, 1, 2, 3, 4);
        word(reads("word 1 2 3 4;", 1), 0, 1, 2, 3, 4);
        RhymeLaw x = reads(" form  abc ; metre  c  12 ; word 0 0 0 1 ; line  0  3  4 ; stock  0  5  6 ; ", 5);
        Check.due("letters", x.form(0, 2), 2);
        Check.due("metre", x.metre(2, 0), 12);
        line(x, 0, 0, 3, 4);
        stock(x, 0, 0, 5, 6);
        Check.due("one blank", reads(" ", 0).count(0), 0);
    }

    private static void blanksNeededOnlyBetween() {
        RhymeLaw x = reads("word1 2 3 4;metre h20;line0 5 6;stock0 7 8;form h;", 5);
        word(x, 0, 1, 2, 3, 4);
        Check.due("metre", x.metre(7, 0), 20);
        line(x, 0, 0, 5, 6);
        stock(x, 0, 0, 7, 8);
    }

    private static void blanksNeededBetweenLetters() {
        fault("^forma;");
        fault("^metrea 1;");
        fault("^metrea1;");
        fault("form a;^formb;");
        fault("^wordline 0 0 0;");
    }

    private static void blanksNeededBetweenNumbers() {
        fault("word 12 3 4^;");
        fault("word 1 2 ^34;");
        fault("word ^1234;");
        fault(WORD + "line 0 ^16;");
    }

    private static void blanksWithinTokensAreNone() {
        fault("^wo rd 0 0 0 1;");
        fault("form a ^b;");
        fault("word 1 0 0 1 ^0;");
        fault("form abcd ^efgh;");
    }

    private static void onlyByte32IsBlank() {
        int[] others = {0, 9, 10, 11, 12, 13, 31, 33, 127, 128, 160, 255};
        for (int b : others) {
            char sign = (char) b;
            fault("^" + sign + WORD);
            fault("word^" + sign + "0 0 0 1;");
            fault("word 0^" + sign + "0 0 1;");
            fault("word 0 0 0 1^" + sign + ";");
            fault(WORD + "^" + sign);
        }
    }

    private static void noItemsAreFine() {
        reads("", 0);
        reads("  ", 0);
    }

    private static void eachItemEndsByItsSign() {
        fault("^;");
        fault("   ^;");
        fault(WORD + "^;");
        fault(WORD + "  ^;" + WORD);
        fault("word 0 0 0 1 ^word 0 0 0 1;");
        fault("form a ^form b;");
        fault("metre a 0 ^metre b 0;");
        fault(WORD + "line 0 0 0 ^line 0 0 0;");
        fault(WORD + "stock 0 0 0 ^stock 0 0 0;");
        fault("word 0 0 0 1^:");
        fault("form a^,");
    }

    // ---- words, forms, metres, lines, stock told by the text

    private static void sixteenWords() {
        StringBuilder all = new StringBuilder();
        for (int w = 0; w < 16; w++) {
            all.append("word ").append(w).append(' ').append(25 - w).append(' ').append(w % 10).append(" 1;");
        }
        RhymeLaw x = reads(all.toString(), 16);
        Check.due("words", x.count(0), 16);
        for (int w = 0; w < 16; w++) {
            word(x, w, w, 25 - w, w % 10, 1);
        }
        reads(Check.times(WORD, 15), 15);
    }

    private static void aSeventeenthWord() {
        String all = Check.times(WORD, 16);
        fault(all + "^word 0 0 0 1;");
        fault(all + "  ^word");
        fault(all + "^word 26 0 0 1;");
        fault(all + "^word;");
        fault(all + "form a;^word 0 0 0 1;");
        reads(all + "form a;metre a 1;line 15 0 0;stock 15 0 0;", 20);
    }

    private static void sounds() {
        word(reads("word 0 25 0 1;", 1), 0, 0, 25, 0, 1);
        word(reads("word 25 0 0 1;", 1), 0, 25, 0, 0, 1);
        fault("word ^26 0 0 1;");
        fault("word 0 ^26 0 1;");
        fault("word ^99 0 0 1;");
        fault("word 0 ^99 0 1;");
        fault("word ^-1 0 0 1;");
        fault("word 0 ^-1 0 1;");
    }

    private static void meanings() {
        word(reads("word 0 0 0 1;", 1), 0, 0, 0, 0, 1);
        word(reads("word 0 0 9 1;", 1), 0, 0, 0, 9, 1);
        fault("word 0 0 ^10 1;");
        fault("word 0 0 ^99 1;");
        fault("word 0 0 ^-1 1;");
    }

    private static void syllables() {
        word(reads("word 0 0 0 1;", 1), 0, 0, 0, 0, 1);
        word(reads("word 0 0 0 4;", 1), 0, 0, 0, 0, 4);
        fault("word 0 0 0 ^0;");
        fault("word 0 0 0 ^5;");
        fault("word 0 0 0 ^99;");
    }

    private static void wordHasFourNumbers() {
        fault("word^;");
        fault("word 0^;");
        fault("word 0 0^;");
        fault("word 0 0 0^;");
        fault("word 0 0 0 1 ^1;");
        fault("word ^a 0 0 1;");
        fault("word 0 ^a 0 1;");
        fault("word 0 0 ^a 1;");
        fault("word 0 0 0 ^a;");
    }

    private static void twoForms() {
        RhymeLaw x = reads("form abc;form h;", 2);
        Check.due("forms", x.count(1), 2);
        Check.due("the first", x.form(0, 1), 1);
        Check.due("the second", x.form(1, 1), 7);
        Check.due("one form", reads("form a;", 1).count(1), 1);
    }

    private static void aThirdForm() {
        fault("form a;form b;^form c;");
        fault("form a;form b;  ^form");
        fault("form a;form b;^form i;");
        fault("form a;form b;" + WORD + "^form c;");
    }

    private static void oneToEightLetters() {
        for (int n = 1; n <= 8; n++) {
            RhymeLaw x = reads("form " + "abcdefgh".substring(0, n) + ";", 1);
            for (int i = 0; i <= 16; i++) {
                Check.due("letter " + i + " of " + n, x.form(0, i), i % n);
            }
        }
        fault("form^;");
        fault("form ^;");
        fault("form ^abcdefgha;");
        fault("form ^aaaaaaaaa;");
        fault("form ^" + Check.times("a", 257) + ";");
        fault("form a;form ^aaaaaaaaa;");
    }

    private static void lettersAtoH() {
        Check.due("a", reads("form a;", 1).form(0, 0), 0);
        Check.due("h", reads("form h;", 1).form(0, 0), 7);
        String[] wrong = {"i", "j", "z", "ia", "ai", "aia", "abcdefgi", "ibcdefgh", "zz", "word", "form"};
        for (String letters : wrong) {
            fault("form ^" + letters + ";");
        }
        fault("form ^A;");
        fault("form a^B;");
        fault("form ^1;");
        fault("form a^1;");
        fault("form ^`;");
        fault("form ^{;");
    }

    private static void metresLetter() {
        for (int letter = 0; letter < 8; letter++) {
            RhymeLaw x = reads("metre " + (char) ('a' + letter) + " 3;", 1);
            for (int other = 0; other < 8; other++) {
                Check.due("metre " + other, x.metre(other, 0), other == letter ? 3 : 0);
            }
        }
        String[] wrong = {"i", "z", "aa", "ab", "ia", "metre"};
        for (String letter : wrong) {
            fault("metre ^" + letter + " 1;");
        }
        fault("metre ^1 1;");
        fault("metre^;");
        fault("metre ^A 1;");
    }

    private static void metresNumber() {
        Check.due("0", reads("metre a 0;", 1).metre(0, 0), 0);
        Check.due("20", reads("metre a 20;", 1).metre(0, 0), 20);
        fault("metre a ^21;");
        fault("metre a ^99;");
        fault("metre a ^b;");
        fault("metre a^;");
        fault("metre a 1 ^1;");
        fault("metre a ^-1;");
    }

    private static void metreToldAgain() {
        Check.due("what is later", reads("metre a 5;metre a 6;", 2).metre(0, 0), 6);
        Check.due("0 is later", reads("metre a 5;metre b 4;metre a 0;", 3).metre(0, 0), 0);
        Check.due("of another letter", reads("metre a 5;metre b 4;metre a 0;", 3).metre(1, 0), 4);
    }

    private static void metresAreAnyAtFirst() {
        RhymeLaw x = reads("word 0 0 0 4;word 0 0 0 1;form a;line 0 0 16;line 1 0 0;", 5);
        Check.due("law", x.law(0, 0), 1);
    }

    private static void linesParts() {
        line(reads(WORD + "line 0 0 0;", 2), 0, 0, 0, 0);
        line(reads(Check.times(WORD, 16) + "line 15 9 16;", 17), 0, 15, 9, 16);
        fault(WORD + "line ^1 0 0;");
        fault(Check.times(WORD, 16) + "line ^16 0 0;");
        fault(WORD + "line 0 ^10 0;");
        fault(WORD + "line 0 ^99 0;");
        fault(WORD + "line 0 0 ^17;");
        fault(WORD + "line 0 0 ^99;");
        fault(WORD + "line^;");
        fault(WORD + "line 0^;");
        fault(WORD + "line 0 0^;");
        fault(WORD + "line 0 0 0 ^0;");
    }

    private static void stocksParts() {
        stock(reads(WORD + "stock 0 0 0;", 2), 0, 0, 0, 0);
        stock(reads(Check.times(WORD, 16) + "stock 15 9 16;", 17), 0, 15, 9, 16);
        fault(WORD + "stock ^1 0 0;");
        fault(Check.times(WORD, 16) + "stock ^16 0 0;");
        fault(WORD + "stock 0 ^10 0;");
        fault(WORD + "stock 0 ^99 0;");
        fault(WORD + "stock 0 0 ^17;");
        fault(WORD + "stock 0 0 ^99;");
        fault(WORD + "stock^;");
        fault(WORD + "stock 0^;");
        fault(WORD + "stock 0 0^;");
        fault(WORD + "stock 0 0 0 ^0;");
    }

    /** The words that stand are none of this text's. */
    private static void aWordThatWasTold() {
        fault("line ^0 0 0;");
        fault("stock ^0 0 0;");
        fault("line ^0 0 0;" + WORD);
        fault("stock ^0 0 0;" + WORD);
        fault(WORD + "line ^1 0 0;" + WORD);
        fault(WORD + WORD + "line 1 0 0;stock ^2 0 0;");
    }

    private static void eightLines() {
        String all = WORD + Check.times("line 0 1 2;", 8);
        Check.due("lines", reads(all, 9).count(2), 8);
        Check.due("lines", reads(WORD + Check.times("line 0 1 2;", 7), 8).count(2), 7);
        fault(all + "^line 0 1 2;");
        fault(all + "   ^line");
        fault(all + "^line 1 0 0;");
        fault(all + "stock 0 0 0;^line 0 0 0;");
        Check.due("stock behind eight lines", reads(all + "stock 0 0 0;", 10).count(3), 1);
    }

    private static void sixOfTheStock() {
        String all = WORD + Check.times("stock 0 1 2;", 6);
        Check.due("stock", reads(all, 7).count(3), 6);
        Check.due("stock", reads(WORD + Check.times("stock 0 1 2;", 5), 6).count(3), 5);
        fault(all + "^stock 0 1 2;");
        fault(all + "   ^stock");
        fault(all + "^stock 1 0 0;");
        fault(all + "line 0 0 0;^stock 0 0 0;");
        Check.due("lines behind six of the stock", reads(all + "line 0 0 0;", 8).count(2), 1);
    }

    private static void mostOfAll() {
        RhymeLaw x = reads(Check.times("word 9 9 9 4;", 16) + "form abcdefgh;form hgfedcba;metre h 20;"
                + Check.times("line 15 9 16;", 8) + Check.times("stock 15 9 16;", 6), 33);
        int[] counts = {16, 2, 8, 6, 0};
        for (int what = 0; what < 5; what++) {
            Check.due("count " + what, x.count(what), counts[what]);
        }
        line(x, 7, 15, 9, 16);
        stock(x, 5, 15, 9, 16);
    }

    // ---- tokens and faults

    private static void numbersUpTo99() {
        fault("word ^100 0 0 1;");
        fault("word ^999 0 0 1;");
        fault("word ^256 0 0 1;");
        fault("word ^65536 0 0 1;");
        fault("word ^4294967296 0 0 1;");
        fault("word ^18446744073709551616 0 0 1;");
        fault("word 0 0 0 ^1100;");
        fault("^100");
        fault("metre a ^100;");
        fault(WORD + "line ^100 0 0;");
        fault("form ^100;");
    }

    private static void noZeroAheadOfOthers() {
        fault("word ^00 0 0 1;");
        fault("word ^01 0 0 1;");
        fault("word 0 ^07 0 1;");
        fault("word 0 0 ^09 1;");
        fault("word 0 0 0 ^01;");
        fault("word ^000 0 0 1;");
        fault("metre a ^00;");
        fault("metre a ^020;");
        fault(WORD + "line ^00 0 0;");
        fault(WORD + "line 0 0 ^016;");
        word(reads("word 10 20 0 1;", 1), 0, 10, 20, 0, 1);
        fault("^00");
    }

    private static void bytesThatBeginNone() {
        int[] wrong = {33, 47, 58, 60, 64, 65, 90, 91, 96, 123, 126};
        for (int b : wrong) {
            char sign = (char) b;
            fault("^" + sign);
            fault("word 0^" + sign + " 0 0 1;");
            fault("form a^" + sign + ";");
            fault("^wor" + sign + "d 0 0 0 1;");
            fault(WORD + "  ^" + sign + "  ");
        }
    }

    private static void theFirstFaultCounts() {
        fault("word ^26 26 10 5;");
        fault("word 0 ^26 10 5;");
        fault("^wird 26 0 0 1");
        fault("word 0 0 0 ^5$");
        fault("word 0 0 0 1^$ word 26");
        fault("word 0 0 0 1;^; form i;");
        fault("form a;form b;^form $");
    }

    private static void theFirstByteOfTheToken() {
        fault("    ^words 0 0 0 1;");
        fault("word    0    ^99 0 1;");
        fault(WORD + "   line   0   ^10   0;");
        fault("form     ^abcdefghh;");
        fault("metre   a   ^100;");
    }

    private static void tooEarlyIsTheLength() {
        String[] starts = {"word", "word 1", "word 1 2", "word 1 2 3", "word 1 2 3 4", "form", "form abc", "metre",
            "metre a", "metre a 5", WORD + "line", WORD + "line 0", WORD + "line 0 1", WORD + "line 0 1 2",
            WORD + "stock", WORD + "stock 0", WORD + "stock 0 1", WORD + "stock 0 1 2"};
        for (String start : starts) {
            fault(start + "^");
            fault(start + "   ^");
            fault("  " + start + " ^");
        }
    }

    private static void tooEarlyBehindAFaultIsNone() {
        fault("^wor");
        fault("word ^26");
        fault("form ^i");
        fault("form ^abcdefgha");
        fault("metre ^i");
        fault("metre a ^21");
        fault(WORD + "line ^1");
        fault("^w");
        fault("word 1 2 3 ^0");
    }

    private static void onlyFiveNamesBegin() {
        String[] wrong = {"wor", "words", "wordd", "lines", "lin", "forms", "for", "metres", "metr", "stocks", "stoc",
            "a", "h", "z", "abc", "paper", "thing", "drow", "lime", "farm", "stack", "meter"};
        for (String name : wrong) {
            fault("^" + name + " 0 0 0 1;");
            fault(WORD + "^" + name + " 0 0 0;");
        }
        for (String name : NAMES) {
            for (int i = 0; i < name.length(); i++) {
                fault("^" + name.substring(0, i) + "x" + name.substring(i + 1) + " 0 0 0 1;");
                fault("^" + name.substring(0, i) + name.substring(i + 1) + " 0 0 0 1;");
                fault("^" + name.substring(0, i) + "x" + name.substring(i) + " 0 0 0 1;");
            }
        }
        fault("^Word 0 0 0 1;");
        fault("^0 word 0 0 0 1;");
        fault("^1;");
        fault("^WORD 0 0 0 1;");
    }

    private static void namesStandOnlyAtTheBegin() {
        for (String name : NAMES) {
            fault("word 0 ^" + name + " 0 1;");
            fault("form ^" + name + ";");
            fault("metre ^" + name + " 1;");
            fault(WORD + "line 0 ^" + name + ";");
            fault("word 0 0 0 1 ^" + name + ";");
        }
    }

    private static void itemsAreCounted() {
        reads(WORD, 1);
        reads("metre a 0;metre a 0;", 2);
        reads(WORD + "form a;metre a 1;line 0 0 0;stock 0 0 0;", 5);
        reads("form a;" + WORD + "stock 0 0 0;line 0 0 0;metre h 20;", 5);
    }

    private static void typeSentences() {
        Check.sentence("the lowest n (1 .. 8) bytes; BAD", TextBoundaryTests::typeOneToEight);
        Check.sentence("the lowest n bytes, the highest first", TextBoundaryTests::typeLowestBytes);
        Check.sentence("the lowest n bytes of any v", TextBoundaryTests::typeAnyLong);
        Check.sentence("a text, 500 bytes at most", TextBoundaryTests::typeUpToFiveHundred);
        Check.sentence("type: FULL", TextBoundaryTests::typeBeyondIsFull);
        Check.sentence("type: BAD ahead of FULL", TextBoundaryTests::typeBadAheadOfFull);
        Check.sentence("clear: how many bytes it had: none", TextBoundaryTests::clearOfEmpty);
        Check.sentence("clear: how many bytes it had: all", TextBoundaryTests::clearOfFull);
        Check.sentence("clear: the text is empty", TextBoundaryTests::clearLeavesTheRest);
        Check.sentence("clear behind a fault", TextBoundaryTests::clearBehindFault);
    }

    private static void readSentences() {
        Check.sentence("read: of no text", TextBoundaryTests::readOfNothing);
        Check.sentence("read: tells all anew", TextBoundaryTests::readTellsAllAnew);
        Check.sentence("read: tells all anew, each time", TextBoundaryTests::readTellsAllAnewEachTime);
        Check.sentence("read: -10 less FAULT: nothing changes", TextBoundaryTests::readNothingStaysOfAFault);
        Check.sentence("read: the text stays, too", TextBoundaryTests::readOfFaultAgain);
        Check.sentence("read: a text that stays is typed on", TextBoundaryTests::readFaultCanBeTypedOn);
        Check.sentence("read: the full text", TextBoundaryTests::readFullText);
        Check.sentence("read: how many items", TextBoundaryTests::itemsAreCounted);
        Check.sentence("blanks, any number, ahead of, between, behind", TextBoundaryTests::blanksOfAnyNumber);
        Check.sentence("blanks needed only between two rows of letters, two numbers",
                TextBoundaryTests::blanksNeededOnlyBetween);
        Check.sentence("blanks needed between two rows of letters", TextBoundaryTests::blanksNeededBetweenLetters);
        Check.sentence("blanks needed between two numbers", TextBoundaryTests::blanksNeededBetweenNumbers);
        Check.sentence("without blanks between", TextBoundaryTests::blanksWithinTokensAreNone);
        Check.sentence("blanks (32)", TextBoundaryTests::onlyByte32IsBlank);
        Check.sentence("items (none, too)", TextBoundaryTests::noItemsAreFine);
        Check.sentence("each ended by ;", TextBoundaryTests::eachItemEndsByItsSign);
    }

    private static void itemSentences() {
        Check.sentence("words: 16 at most", TextBoundaryTests::sixteenWords);
        Check.sentence("FAULT: a 17th word", TextBoundaryTests::aSeventeenthWord);
        Check.sentence("a sound: 0 .. 25 each", TextBoundaryTests::sounds);
        Check.sentence("a meaning: 0 .. 9", TextBoundaryTests::meanings);
        Check.sentence("syllables: 1 .. 4", TextBoundaryTests::syllables);
        Check.sentence("word S T M Y", TextBoundaryTests::wordHasFourNumbers);
        Check.sentence("forms: 2 at most", TextBoundaryTests::twoForms);
        Check.sentence("FAULT: a third form", TextBoundaryTests::aThirdForm);
        Check.sentence("1 to 8 letters; it goes on from the first", TextBoundaryTests::oneToEightLetters);
        Check.sentence("letters a .. h", TextBoundaryTests::lettersAtoH);
        Check.sentence("metre L N: a letter a .. h", TextBoundaryTests::metresLetter);
        Check.sentence("metres: 0 .. 20", TextBoundaryTests::metresNumber);
        Check.sentence("metre: told again, what is later counts", TextBoundaryTests::metreToldAgain);
        Check.sentence("metres: 0 at first: any", TextBoundaryTests::metresAreAnyAtFirst);
        Check.sentence("line W B Y: a thing 0 .. 9, before 0 .. 16", TextBoundaryTests::linesParts);
        Check.sentence("stock W B Y: a thing 0 .. 9, before 0 .. 16", TextBoundaryTests::stocksParts);
        Check.sentence("its word, that was told", TextBoundaryTests::aWordThatWasTold);
        Check.sentence("lines: 8 at most; FAULT: a ninth line", TextBoundaryTests::eightLines);
        Check.sentence("the stock: 6 at most; FAULT: a seventh stock", TextBoundaryTests::sixOfTheStock);
        Check.sentence("the most of all in one text", TextBoundaryTests::mostOfAll);
    }

    private static void faultSentences() {
        Check.sentence("FAULT: a number above 99", TextBoundaryTests::numbersUpTo99);
        Check.sentence("FAULT: a number with a 0 ahead of others", TextBoundaryTests::noZeroAheadOfOthers);
        Check.sentence("FAULT: of a byte that begins none", TextBoundaryTests::bytesThatBeginNone);
        Check.sentence("FAULT: the first token that can't stand there", TextBoundaryTests::theFirstFaultCounts);
        Check.sentence("FAULT: the place of the first byte", TextBoundaryTests::theFirstByteOfTheToken);
        Check.sentence("FAULT: the text's length, if it ends too early", TextBoundaryTests::tooEarlyIsTheLength);
        Check.sentence("FAULT: a token ahead of the end", TextBoundaryTests::tooEarlyBehindAFaultIsNone);
        Check.sentence("an item begins: just word, form, metre, line, stock", TextBoundaryTests::onlyFiveNamesBegin);
        Check.sentence("just where an item begins", TextBoundaryTests::namesStandOnlyAtTheBegin);
    }

    public static void main(String[] args) {
        typeSentences();
        readSentences();
        itemSentences();
        faultSentences();
        Check.end("TextBoundaryTests");
    }
}

import java.util.Arrays;

/** Only what rhymes binds: words, forms of verse, papers and what stands in them. */
public final class RhymeLaw {
    public static final int BAD = -1, STATE = -2, FULL = -3, NONE = -9;
    public static final int NO = -1000000;

    private static final int MOST_BYTES = 500;
    private static final int MOST_WORDS = 16;
    private static final int MOST_FORMS = 2;
    private static final int MOST_LETTERS = 8;
    private static final int MOST_LINES = 8;
    private static final int MOST_STOCK = 6;
    private static final int MOST_IMAGES = 2;
    private static final int DIALECTS = 2;
    private static final int MIXED = 2;
    private static final int LAST_SOUND = 25;
    private static final int LAST_MEANING = 9;
    private static final int LAST_SYLLABLES = 4;
    private static final int LAST_METRE = 20;
    private static final int LAST_THING = 9;
    private static final int LAST_BEFORE = 16;
    private static final int ALL_THINGS = 1023;
    private static final int LAST_ASKED = 99;
    private static final int NOT_SO_MANY = -5;
    private static final int FAULT_FROM = -10;

    private final Text text = new Text();
    private final Verdict verdict = new Verdict();
    private final Paper trial = new Paper(MOST_LINES);
    private final Mending mending = new Mending();
    private final Guess guess = new Guess();
    private final Choice choice = new Choice();
    private final Paper firstImage = new Paper(MOST_LINES);
    private final Paper secondImage = new Paper(MOST_LINES);
    private Tale told = new Tale();
    private Tale spare = new Tale();
    private int kept;
    private long traced;

    public RhymeLaw() {
    }

    // ---- words, forms, papers

    public int type(long v, int n) {
        if (n < 1 || n > 8) {
            return BAD;
        }
        if (text.length() + n > MOST_BYTES) {
            return FULL;
        }
        for (int k = n - 1; k >= 0; k--) {
            text.append((int) (v >>> (8 * k)) & 255);
        }
        return text.length();
    }

    public int clear() {
        int had = text.length();
        text.wipe();
        return had;
    }

    public int read() {
        int items = Reader.tell(text, spare);
        if (items < 0) {
            return items;
        }
        // What is read goes to the spare tale, so a fault leaves the told one whole.
        Tale old = told;
        told = spare;
        spare = old;
        text.wipe();
        kept = 0;
        return items;
    }

    public int word(int w, int what) {
        if (!told.words.has(w)) {
            return BAD;
        }
        switch (what) {
            case 0:
                return told.words.sound(0, w);
            case 1:
                return told.words.sound(1, w);
            case 2:
                return told.words.meaning(w);
            case 3:
                return told.words.syllables(w);
            default:
                return BAD;
        }
    }

    public int form(int f, int i) {
        if (!told.forms.has(f) || i < 0 || i > LAST_ASKED) {
            return BAD;
        }
        return told.forms.letter(f, i);
    }

    public int metre(int letter, int n) {
        if (letter < 0 || letter >= MOST_LETTERS || n < 0 || n > LAST_METRE) {
            return BAD;
        }
        int was = told.metreOf(letter);
        told.setMetre(letter, n);
        return was;
    }

    public int line(int i, int what) {
        return told.paper.part(i, what);
    }

    public int stock(int i, int what) {
        return told.stock.part(i, what);
    }

    public int put(int p, int word, int thing, int before) {
        if (p < 0 || p > told.paper.size() || !told.words.has(word)
                || thing < 0 || thing > LAST_THING || before < 0 || before > LAST_BEFORE) {
            return BAD;
        }
        if (told.paper.isFull()) {
            return FULL;
        }
        told.paper.insert(p, word, thing, before);
        return told.paper.size();
    }

    public int change(int i, int word) {
        if (!told.paper.has(i) || !told.words.has(word)) {
            return BAD;
        }
        int was = told.paper.wordAt(i);
        told.paper.setWord(i, word);
        return was;
    }

    public int take(int i) {
        if (!told.paper.has(i)) {
            return BAD;
        }
        told.paper.remove(i);
        return told.paper.size();
    }

    // ---- judged, by a form f, in a dialect d

    public int judged(int f, int d, int i, int what) {
        if (isNoView(f, d) || !told.paper.has(i)) {
            return BAD;
        }
        Verdict view = view(f, d);
        switch (what) {
            case 0:
                return view.stands(i) ? 1 : 0;
            case 1:
                return view.opens(i) ? 1 : 0;
            case 2:
                return view.binds(i) ? 1 : 0;
            case 3:
                return view.rhymed(i) ? view.anchor(i) : NONE;
            default:
                return BAD;
        }
    }

    public int law(int f, int d) {
        if (isNoView(f, d)) {
            return BAD;
        }
        return view(f, d).isLaw() ? 1 : 0;
    }

    public int empty(int f, int d) {
        if (isNoView(f, d)) {
            return BAD;
        }
        return view(f, d).firstLoose();
    }

    public int bound(int f, int d) {
        if (isNoView(f, d)) {
            return BAD;
        }
        return view(f, d).thingsOf(told.paper);
    }

    public int struck(int f, int d, int set) {
        if (isNoView(f, d)) {
            return BAD;
        }
        return view(f, d).left(set);
    }

    public int key(int f, int d) {
        if (isNoView(f, d)) {
            return BAD;
        }
        return view(f, d).keyLine();
    }

    // ---- other papers

    public int mended(int f, int d, int i) {
        if (isNoView(f, d) || isNoLineNorAll(i)) {
            return BAD;
        }
        int changes = mending.mend(told, f, d);
        return changes < 0 || i < 0 ? changes : mending.wordAt(i);
    }

    public int shortest(int f, int d, int things, int i) {
        if (isNoView(f, d) || things < 0 || things > ALL_THINGS || i < -1) {
            return BAD;
        }
        int size = choice.find(told, f, d, things);
        if (size < 0 || i < 0) {
            return size;
        }
        return i < size ? choice.pickAt(i) : NOT_SO_MANY;
    }

    public int both(int d) {
        if (isNoView(0, d) || isNoView(1, d)) {
            return BAD;
        }
        return view(0, d).isLaw() && view(1, d).isLaw() ? 1 : 0;
    }

    public int parting(int f) {
        if (!told.forms.has(f)) {
            return BAD;
        }
        if (!view(f, 0).isLaw() || view(f, 1).isLaw()) {
            return NONE;
        }
        // A word of no line parts nothing, so all words may be tried.
        for (int w = 0; w < told.words.size(); w++) {
            if (isMixedLaw(f, w)) {
                return w;
            }
        }
        return NONE;
    }

    public int forged(int f, int d, int k) {
        if (isNoView(f, d) || !told.paper.has(k)) {
            return BAD;
        }
        if (!view(f, d).binds(k)) {
            return STATE;
        }
        if (told.paper.isFull()) {
            return FULL;
        }
        for (int p = 0; p <= told.paper.size(); p++) {
            for (int s = 0; s < told.stock.size(); s++) {
                if (isLoosed(f, d, k, p, s)) {
                    return 10 * p + s;
                }
            }
        }
        return NONE;
    }

    public long burnt(int f, int d, int set, int i) {
        if (isNoView(f, d) || isNoLineNorAll(i)) {
            return BAD;
        }
        long ways = guess.waysOf(told, f, d, set);
        if (i < 0) {
            return ways;
        }
        return ways > 0 ? guess.wordsOf(told, f, d, i) : 0;
    }

    // ---- kinds, images

    public int rate(int kind, int i) {
        if (!told.paper.has(i)) {
            return NO;
        }
        switch (kind) {
            case 0:
                return asLine(i);
            case 1:
                return asOpening(i);
            case 2:
                return asRhymed(i);
            case 3:
                return asAnchor(i);
            case 4:
                return asKey(i);
            case 5:
                return asFallen(i);
            default:
                return NO;
        }
    }

    public int keep(int image) {
        if (image < 0 || image >= MOST_IMAGES) {
            return BAD;
        }
        imageOf(image).copyFrom(told.paper);
        kept |= 1 << image;
        return told.paper.size();
    }

    public int back(int image) {
        if (image < 0 || image >= MOST_IMAGES) {
            return BAD;
        }
        if ((kept >> image & 1) == 0) {
            return STATE;
        }
        told.paper.copyFrom(imageOf(image));
        return told.paper.size();
    }

    public int count(int what) {
        switch (what) {
            case 0:
                return told.words.size();
            case 1:
                return told.forms.size();
            case 2:
                return told.paper.size();
            case 3:
                return told.stock.size();
            case 4:
                return text.length();
            default:
                return BAD;
        }
    }

    public long trace() {
        return traced;
    }

    // ---- what the calls above share

    private boolean isNoView(int f, int d) {
        return !told.forms.has(f) || d < 0 || d >= DIALECTS;
    }

    private boolean isNoLineNorAll(int i) {
        return i != -1 && !told.paper.has(i);
    }

    private Verdict view(int f, int d) {
        verdict.judge(told, told.paper, f, d);
        return verdict;
    }

    private boolean isMixedLaw(int f, int w) {
        told.words.mix(w);
        return view(f, MIXED).isLaw();
    }

    private boolean isLoosed(int f, int d, int k, int p, int s) {
        trial.copyFrom(told.paper);
        trial.insert(p, told.stock.wordAt(s), told.stock.thingAt(s), told.stock.beforeAt(s));
        verdict.judge(told, trial, f, d);
        return !verdict.binds(p <= k ? k + 1 : k);
    }

    private Paper imageOf(int image) {
        return image == 0 ? firstImage : secondImage;
    }

    // ---- what each kind does: a kind asks the one above it

    private int asLine(int i) {
        traced += 1;
        return told.paper.thingAt(i);
    }

    private int asOpening(int i) {
        traced += 10;
        return asLine(i) + told.words.syllables(told.paper.wordAt(i));
    }

    private int asRhymed(int i) {
        traced += 100;
        return asLine(i) + told.paper.beforeAt(i);
    }

    private int asAnchor(int i) {
        traced += 1000;
        return 2 * asRhymed(i);
    }

    private int asKey(int i) {
        traced += 10000;
        return asOpening(i) + i;
    }

    private int asFallen(int i) {
        traced += 100000;
        return asLine(i) - told.words.meaning(told.paper.wordAt(i));
    }

    /** Rows of numbers: a place that there is not reads as 0 and takes nothing. */
    static final class Rows {
        static int at(int[] row, int i) {
            return row != null && i >= 0 && i < row.length ? row[i] : 0;
        }

        static void set(int[] row, int i, int value) {
            if (row != null && i >= 0 && i < row.length) {
                row[i] = value;
            }
        }
    }

    /** The words: the sounds, the meaning and the syllables of each. */
    static final class Words {
        private final int[] sounds = new int[(MIXED + 1) * MOST_WORDS];
        private final int[] meanings = new int[MOST_WORDS];
        private final int[] syllables = new int[MOST_WORDS];
        private int size;

        int size() {
            return size;
        }

        boolean isFull() {
            return size >= MOST_WORDS;
        }

        boolean has(int w) {
            return w >= 0 && w < size;
        }

        void wipe() {
            size = 0;
        }

        void add(int firstSound, int secondSound, int meaning, int syllableCount) {
            if (isFull()) {
                return;
            }
            Rows.set(sounds, size, firstSound);
            Rows.set(sounds, MOST_WORDS + size, secondSound);
            Rows.set(meanings, size, meaning);
            Rows.set(syllables, size, syllableCount);
            size++;
        }

        int sound(int d, int w) {
            return Rows.at(sounds, d * MOST_WORDS + w);
        }

        int meaning(int w) {
            return Rows.at(meanings, w);
        }

        int syllables(int w) {
            return Rows.at(syllables, w);
        }

        boolean rhyme(int d, int w, int v) {
            return w != v && sound(d, w) == sound(d, v);
        }

        /** Makes the mixed dialect: the second one, but for one word that sounds as in the first. */
        void mix(int odd) {
            for (int w = 0; w < size; w++) {
                Rows.set(sounds, MIXED * MOST_WORDS + w, sound(w == odd ? 0 : 1, w));
            }
        }
    }

    /** The forms: which letter each line has. */
    static final class Forms {
        private final int[] letters = new int[MOST_FORMS * MOST_LETTERS];
        private final int[] lengths = new int[MOST_FORMS];
        private int size;

        int size() {
            return size;
        }

        boolean isFull() {
            return size >= MOST_FORMS;
        }

        boolean has(int f) {
            return f >= 0 && f < size;
        }

        void wipe() {
            size = 0;
        }

        void begin() {
            if (isFull()) {
                return;
            }
            Rows.set(lengths, size, 0);
            size++;
        }

        void addLetter(int letter) {
            int f = size - 1;
            int length = Rows.at(lengths, f);
            if (f < 0 || length >= MOST_LETTERS) {
                return;
            }
            Rows.set(letters, f * MOST_LETTERS + length, letter);
            Rows.set(lengths, f, length + 1);
        }

        int letter(int f, int i) {
            int length = Rows.at(lengths, f);
            return length > 0 && i >= 0 ? Rows.at(letters, f * MOST_LETTERS + i % length) : 0;
        }

        /** The nearest line ahead with the same letter, or -1. */
        int ahead(int f, int i) {
            for (int j = i - 1; j >= 0; j--) {
                if (letter(f, j) == letter(f, i)) {
                    return j;
                }
            }
            return -1;
        }

        /** The nearest line behind, of so many lines, with the same letter, or -1. */
        int behind(int f, int i, int lines) {
            for (int j = i + 1; j < lines; j++) {
                if (letter(f, j) == letter(f, i)) {
                    return j;
                }
            }
            return -1;
        }

        /** Whether there is a line, and each has another one with its letter: without that no paper is law. */
        boolean pairs(int f, int lines) {
            for (int i = 0; i < lines; i++) {
                if (ahead(f, i) < 0 && behind(f, i, lines) < 0) {
                    return false;
                }
            }
            return lines > 0;
        }
    }

    /** Lines in their order, with a bound on how many. */
    static final class Paper {
        private final int[] words = new int[MOST_LINES];
        private final int[] things = new int[MOST_LINES];
        private final int[] befores = new int[MOST_LINES];
        private final int most;
        private int size;

        Paper(int most) {
            this.most = Math.min(most, MOST_LINES);
        }

        int size() {
            return size;
        }

        boolean isFull() {
            return size >= most;
        }

        boolean has(int i) {
            return i >= 0 && i < size;
        }

        void wipe() {
            size = 0;
        }

        void cut(int lines) {
            size = Math.max(0, Math.min(size, lines));
        }

        int wordAt(int i) {
            return Rows.at(words, i);
        }

        int thingAt(int i) {
            return Rows.at(things, i);
        }

        int beforeAt(int i) {
            return Rows.at(befores, i);
        }

        void setWord(int i, int word) {
            Rows.set(words, i, word);
        }

        int part(int i, int what) {
            if (!has(i)) {
                return BAD;
            }
            switch (what) {
                case 0:
                    return wordAt(i);
                case 1:
                    return thingAt(i);
                case 2:
                    return beforeAt(i);
                default:
                    return BAD;
            }
        }

        void insert(int p, int word, int thing, int before) {
            if (isFull() || p < 0 || p > size) {
                return;
            }
            for (int i = size; i > p; i--) {
                lay(i, wordAt(i - 1), thingAt(i - 1), beforeAt(i - 1));
            }
            lay(p, word, thing, before);
            size++;
        }

        void remove(int p) {
            if (!has(p)) {
                return;
            }
            for (int i = p; i < size - 1; i++) {
                lay(i, wordAt(i + 1), thingAt(i + 1), beforeAt(i + 1));
            }
            size--;
        }

        void copyFrom(Paper other) {
            size = Math.min(other.size(), most);
            for (int i = 0; i < size; i++) {
                lay(i, other.wordAt(i), other.thingAt(i), other.beforeAt(i));
            }
        }

        private void lay(int i, int word, int thing, int before) {
            Rows.set(words, i, word);
            Rows.set(things, i, thing);
            Rows.set(befores, i, before);
        }
    }

    /** All that a text tells. */
    static final class Tale {
        final Words words = new Words();
        final Forms forms = new Forms();
        final Paper paper = new Paper(MOST_LINES);
        final Paper stock = new Paper(MOST_STOCK);
        private final int[] metres = new int[MOST_LETTERS];

        void wipe() {
            words.wipe();
            forms.wipe();
            paper.wipe();
            stock.wipe();
            Arrays.fill(metres, 0);
        }

        int metreOf(int letter) {
            return Rows.at(metres, letter);
        }

        void setMetre(int letter, int n) {
            Rows.set(metres, letter, n);
        }

        boolean fits(int letter, int word, int before) {
            int metre = metreOf(letter);
            return metre == 0 || metre == before + words.syllables(word);
        }
    }

    /** The text, and its tokens one behind another. */
    static final class Text {
        private static final int OUT = 0, ROW = 1, NUMBER = 2, STOP = 3, BROKEN = 4;

        private final byte[] bytes = new byte[MOST_BYTES];
        private int length;
        private int start;
        private int end;
        private int sort;

        int length() {
            return length;
        }

        void wipe() {
            length = 0;
        }

        void append(int b) {
            if (length >= 0 && length < bytes.length) {
                bytes[length] = (byte) b;
                length++;
            }
        }

        void rewind() {
            start = 0;
            end = 0;
            sort = OUT;
        }

        /** Goes on to the next token; behind the last one that is OUT, at the text's length. */
        void advance() {
            start = behind(end, ' ', ' ');
            int b = byteAt(start);
            if (start >= length) {
                sort = OUT;
                end = start;
            } else if (b >= 'a' && b <= 'z') {
                sort = ROW;
                end = behind(start, 'a', 'z');
            } else if (b >= '0' && b <= '9') {
                end = behind(start, '0', '9');
                sort = end - start == 1 || end - start == 2 && b != '0' ? NUMBER : BROKEN;
            } else {
                sort = b == ';' ? STOP : BROKEN;
                end = start + 1;
            }
        }

        int start() {
            return start;
        }

        boolean isOut() {
            return sort == OUT;
        }

        boolean isStop() {
            return sort == STOP;
        }

        boolean isNamed(String name) {
            if (sort != ROW || end - start != name.length()) {
                return false;
            }
            for (int i = 0; i < name.length(); i++) {
                if (byteAt(start + i) != name.charAt(i)) {
                    return false;
                }
            }
            return true;
        }

        /** What the token tells as a NUMBER; -1 if it is none. */
        int number() {
            if (sort != NUMBER) {
                return -1;
            }
            int value = 0;
            for (int i = start; i < end; i++) {
                value = 10 * value + byteAt(i) - '0';
            }
            return value;
        }

        /** How many letters a .. z the token has; 0 if it is no row of them. */
        int letters() {
            return sort == ROW ? end - start : 0;
        }

        /** A letter of the token, 0 for a. */
        int letterAt(int i) {
            return byteAt(start + i) - 'a';
        }

        private int byteAt(int i) {
            return i >= 0 && i < length && i < bytes.length ? bytes[i] : -1;
        }

        /** The first place from there on with a byte that is not one of these; the text's length. */
        private int behind(int from, int low, int high) {
            for (int i = from; i < length; i++) {
                if (i < 0 || i >= bytes.length || bytes[i] < low || bytes[i] > high) {
                    return i;
                }
            }
            return length;
        }
    }

    /** Reads the items of a text into a tale; where one fails, the text stands at the faulty token. */
    static final class Reader {
        private static final String WORD = "word", FORM = "form", METRE = "metre", LINE = "line", STOCK = "stock";

        /** How many items; if the text has a fault, FAULT_FROM less its place. */
        static int tell(Text text, Tale tale) {
            tale.wipe();
            text.rewind();
            for (int items = 0; items <= MOST_BYTES; items++) {
                text.advance();
                if (text.isOut()) {
                    return items;
                }
                if (!tellItem(text, tale)) {
                    return FAULT_FROM - text.start();
                }
            }
            return FAULT_FROM - text.length();
        }

        private static boolean tellItem(Text text, Tale tale) {
            if (text.isNamed(WORD)) {
                return tellWord(text, tale.words);
            }
            if (text.isNamed(FORM)) {
                return tellForm(text, tale.forms);
            }
            if (text.isNamed(METRE)) {
                return tellMetre(text, tale);
            }
            if (text.isNamed(LINE)) {
                return tellLine(text, tale.words, tale.paper);
            }
            if (text.isNamed(STOCK)) {
                return tellLine(text, tale.words, tale.stock);
            }
            return false;
        }

        private static boolean tellWord(Text text, Words words) {
            if (words.isFull()) {
                return false;
            }
            int first = nextNumber(text, 0, LAST_SOUND);
            if (first < 0) {
                return false;
            }
            int second = nextNumber(text, 0, LAST_SOUND);
            if (second < 0) {
                return false;
            }
            int meaning = nextNumber(text, 0, LAST_MEANING);
            if (meaning < 0) {
                return false;
            }
            int syllables = nextNumber(text, 1, LAST_SYLLABLES);
            if (syllables < 0 || !nextStop(text)) {
                return false;
            }
            words.add(first, second, meaning, syllables);
            return true;
        }

        private static boolean tellForm(Text text, Forms forms) {
            if (forms.isFull()) {
                return false;
            }
            text.advance();
            int letters = text.letters();
            if (letters < 1 || letters > MOST_LETTERS) {
                return false;
            }
            forms.begin();
            for (int i = 0; i < letters; i++) {
                if (text.letterAt(i) >= MOST_LETTERS) {
                    return false;
                }
                forms.addLetter(text.letterAt(i));
            }
            return nextStop(text);
        }

        private static boolean tellMetre(Text text, Tale tale) {
            text.advance();
            if (text.letters() != 1 || text.letterAt(0) >= MOST_LETTERS) {
                return false;
            }
            int letter = text.letterAt(0);
            int n = nextNumber(text, 0, LAST_METRE);
            if (n < 0 || !nextStop(text)) {
                return false;
            }
            tale.setMetre(letter, n);
            return true;
        }

        private static boolean tellLine(Text text, Words words, Paper paper) {
            if (paper.isFull()) {
                return false;
            }
            int word = nextNumber(text, 0, words.size() - 1);
            if (word < 0) {
                return false;
            }
            int thing = nextNumber(text, 0, LAST_THING);
            if (thing < 0) {
                return false;
            }
            int before = nextNumber(text, 0, LAST_BEFORE);
            if (before < 0 || !nextStop(text)) {
                return false;
            }
            paper.insert(paper.size(), word, thing, before);
            return true;
        }

        private static int nextNumber(Text text, int low, int high) {
            text.advance();
            int value = text.number();
            return value >= low && value <= high ? value : -1;
        }

        private static boolean nextStop(Text text) {
            text.advance();
            return text.isStop();
        }
    }

    /** A paper judged: which lines stand, open, bind, and their anchors. */
    static final class Verdict {
        private static final int FALLS = 0, OPENS = 1, RHYMED = 2;

        private final int[] states = new int[MOST_LINES];
        private final int[] anchors = new int[MOST_LINES];
        private final int[] latest = new int[MOST_LETTERS];
        private int size;
        private int binding;

        void judge(Tale tale, Paper paper, int f, int d) {
            size = paper.size();
            binding = 0;
            Arrays.fill(latest, -1);
            for (int i = 0; i < size; i++) {
                int letter = tale.forms.letter(f, i);
                int ahead = Rows.at(latest, letter);
                int state = FALLS;
                if (tale.fits(letter, paper.wordAt(i), paper.beforeAt(i))) {
                    if (ahead < 0) {
                        state = OPENS;
                    } else if (tale.words.rhyme(d, paper.wordAt(ahead), paper.wordAt(i))) {
                        state = RHYMED;
                    }
                }
                enter(i, letter, state, ahead);
            }
        }

        private void enter(int i, int letter, int state, int ahead) {
            Rows.set(states, i, state);
            Rows.set(anchors, i, state == RHYMED ? ahead : -1);
            if (state != FALLS) {
                Rows.set(latest, letter, i);
            }
            if (state == RHYMED) {
                binding |= 1 << i | 1 << ahead;
            }
        }

        boolean stands(int i) {
            return Rows.at(states, i) != FALLS;
        }

        boolean opens(int i) {
            return Rows.at(states, i) == OPENS;
        }

        boolean rhymed(int i) {
            return Rows.at(states, i) == RHYMED;
        }

        boolean binds(int i) {
            return (binding >> i & 1) != 0;
        }

        int anchor(int i) {
            return Rows.at(anchors, i);
        }

        boolean isLaw() {
            return size > 0 && binding == (1 << size) - 1;
        }

        /** The first line that does not bind, or NONE. */
        int firstLoose() {
            for (int i = 0; i < size; i++) {
                if (!binds(i)) {
                    return i;
                }
            }
            return NONE;
        }

        int thingsOf(Paper paper) {
            int things = 0;
            for (int i = 0; i < size; i++) {
                if (binds(i)) {
                    things |= 1 << paper.thingAt(i);
                }
            }
            return things;
        }

        /** The lines left when some are struck. */
        int left(int set) {
            int lapsed = 0;
            int left = 0;
            for (int i = 0; i < size; i++) {
                boolean hangs = rhymed(i) && (lapsed >> anchor(i) & 1) != 0;
                if ((set >> i & 1) != 0 || hangs) {
                    lapsed |= 1 << i;
                } else if (rhymed(i)) {
                    left |= 1 << i | 1 << anchor(i);
                }
            }
            return left;
        }

        /** The first line by which alone struck the fewest are left, or NONE. */
        int keyLine() {
            int best = NONE;
            int fewest = MOST_LINES + 1;
            for (int i = 0; i < size; i++) {
                int left = Integer.bitCount(left(1 << i));
                if (left < fewest) {
                    fewest = left;
                    best = i;
                }
            }
            return best;
        }
    }

    /** The fewest words changed for others of their meaning so that the paper is law. */
    static final class Mending {
        private static final int FAR = 1000;

        // The fewest changes from a line on, along its letter, by the word that it has.
        private final int[] costs = new int[MOST_LINES * MOST_WORDS];
        private final int[] row = new int[MOST_LINES];

        /** How many words are changed, or NONE. */
        int mend(Tale tale, int f, int d) {
            int lines = tale.paper.size();
            if (!tale.forms.pairs(f, lines)) {
                return NONE;
            }
            for (int i = lines - 1; i >= 0; i--) {
                weigh(tale, f, d, i);
            }
            int changes = 0;
            for (int i = 0; i < lines; i++) {
                int ahead = tale.forms.ahead(f, i);
                int word = best(tale.words, d, i, ahead < 0 ? -1 : wordAt(ahead));
                if (word < 0) {
                    return NONE;
                }
                Rows.set(row, i, word);
                changes += word == tale.paper.wordAt(i) ? 0 : 1;
            }
            return changes;
        }

        int wordAt(int i) {
            return Rows.at(row, i);
        }

        private void weigh(Tale tale, int f, int d, int i) {
            int behind = tale.forms.behind(f, i, tale.paper.size());
            for (int w = 0; w < tale.words.size(); w++) {
                int cost = FAR;
                if (mayBecome(tale, f, i, w)) {
                    int next = behind < 0 ? -1 : best(tale.words, d, behind, w);
                    int rest = behind < 0 ? 0 : next < 0 ? FAR : costAt(behind, next);
                    cost = rest + (w == tale.paper.wordAt(i) ? 0 : 1);
                }
                Rows.set(costs, i * MOST_WORDS + w, Math.min(cost, FAR));
            }
        }

        private static boolean mayBecome(Tale tale, int f, int i, int w) {
            return tale.words.meaning(w) == tale.words.meaning(tale.paper.wordAt(i))
                    && tale.fits(tale.forms.letter(f, i), w, tale.paper.beforeAt(i));
        }

        private int costAt(int i, int w) {
            return Rows.at(costs, i * MOST_WORDS + w);
        }

        /** The first of the cheapest words for a line that rhyme with one (-1: with any), or -1. */
        private int best(Words words, int d, int i, int beside) {
            int best = -1;
            int least = FAR;
            for (int w = 0; w < words.size(); w++) {
                if (costAt(i, w) < least && (beside < 0 || words.rhyme(d, beside, w))) {
                    least = costAt(i, w);
                    best = w;
                }
            }
            return best;
        }
    }

    /** What the words of some lines can have been, where the paper is law. */
    static final class Guess {
        // The ways from a line on, along its letter, by the word that it has.
        private final long[] ways = new long[MOST_LINES * MOST_WORDS];
        // The words that a line may have, as bits.
        private final int[] possible = new int[MOST_LINES];

        long waysOf(Tale tale, int f, int d, int set) {
            int lines = tale.paper.size();
            if (!tale.forms.pairs(f, lines)) {
                return 0;
            }
            long all = 1;
            for (int i = lines - 1; i >= 0; i--) {
                weigh(tale, f, d, i, (set >> i & 1) != 0);
                if (tale.forms.ahead(f, i) < 0) {
                    all *= sum(tale.words, d, i, -1);
                }
            }
            return all;
        }

        /** How many words a line may have, once the ways are known and there are some. */
        int wordsOf(Tale tale, int f, int d, int line) {
            for (int i = 0; i <= line; i++) {
                int ahead = tale.forms.ahead(f, i);
                int bits = 0;
                for (int w = 0; w < tale.words.size(); w++) {
                    if (waysAt(i, w) > 0 && (ahead < 0 || isReached(tale.words, d, ahead, w))) {
                        bits |= 1 << w;
                    }
                }
                Rows.set(possible, i, bits);
            }
            return Integer.bitCount(Rows.at(possible, line));
        }

        private void weigh(Tale tale, int f, int d, int i, boolean unknown) {
            int behind = tale.forms.behind(f, i, tale.paper.size());
            int letter = tale.forms.letter(f, i);
            for (int w = 0; w < tale.words.size(); w++) {
                long some = 0;
                if ((unknown || w == tale.paper.wordAt(i)) && tale.fits(letter, w, tale.paper.beforeAt(i))) {
                    some = behind < 0 ? 1 : sum(tale.words, d, behind, w);
                }
                setWays(i, w, some);
            }
        }

        /** The ways from a line on by all of its words that rhyme with one (-1: with any). */
        private long sum(Words words, int d, int i, int beside) {
            long sum = 0;
            for (int w = 0; w < words.size(); w++) {
                if (beside < 0 || words.rhyme(d, beside, w)) {
                    sum += waysAt(i, w);
                }
            }
            return sum;
        }

        private boolean isReached(Words words, int d, int ahead, int word) {
            int bits = Rows.at(possible, ahead);
            for (int w = 0; w < words.size(); w++) {
                if ((bits >> w & 1) != 0 && words.rhyme(d, w, word)) {
                    return true;
                }
            }
            return false;
        }

        private long waysAt(int i, int w) {
            int place = i * MOST_WORDS + w;
            return place >= 0 && place < ways.length ? ways[place] : 0;
        }

        private void setWays(int i, int w, long some) {
            int place = i * MOST_WORDS + w;
            if (place >= 0 && place < ways.length) {
                ways[place] = some;
            }
        }
    }

    /** The shortest row of lines of the stock that is law and binds some things. */
    static final class Choice {
        private final Paper row = new Paper(MOST_STOCK);
        private final int[] picks = new int[MOST_STOCK];
        private Tale tale;
        private int form;
        private int dialect;
        private int things;

        /** How many lines the row has, or NONE. */
        int find(Tale from, int f, int d, int wanted) {
            tale = from;
            form = f;
            dialect = d;
            things = wanted;
            for (int lines = 1; lines <= from.stock.size(); lines++) {
                row.wipe();
                if (from.forms.pairs(f, lines) && extend(this, lines, 0, 0)) {
                    return lines;
                }
            }
            return NONE;
        }

        int pickAt(int i) {
            return Rows.at(picks, i);
        }

        /** Tries each line of the stock that is not used yet at this depth of the row. */
        private static boolean extend(Choice choice, int lines, int depth, int used) {
            if (depth >= lines || depth >= MOST_STOCK) {
                return choice.hasThings();
            }
            for (int s = 0; s < choice.stockSize(); s++) {
                if ((used >> s & 1) == 0 && choice.lay(depth, s)
                        && extend(choice, lines, depth + 1, used | 1 << s)) {
                    return true;
                }
            }
            return false;
        }

        private int stockSize() {
            return tale == null ? 0 : tale.stock.size();
        }

        /** Lays a line of the stock into the row: whether it stands there, all ahead of it standing. */
        private boolean lay(int depth, int s) {
            if (tale == null) {
                return false;
            }
            row.cut(depth);
            row.insert(depth, tale.stock.wordAt(s), tale.stock.thingAt(s), tale.stock.beforeAt(s));
            Rows.set(picks, depth, s);
            if (!tale.fits(tale.forms.letter(form, depth), row.wordAt(depth), row.beforeAt(depth))) {
                return false;
            }
            int ahead = tale.forms.ahead(form, depth);
            return ahead < 0 || tale.words.rhyme(dialect, row.wordAt(ahead), row.wordAt(depth));
        }

        private boolean hasThings() {
            int had = 0;
            for (int i = 0; i < row.size(); i++) {
                had |= 1 << row.thingAt(i);
            }
            return (had & things) == things;
        }
    }
}

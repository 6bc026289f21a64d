import java.util.ArrayList;
import java.util.List;
import java.util.regex.Matcher;
import java.util.regex.Pattern;

/** The document once more, in its plainest words: all rows are tried one by one. */
final class Model {
    private static final Pattern TOKEN = Pattern.compile("[a-z]+|0|[1-9][0-9]?|;");
    private static final Pattern DIGITS = Pattern.compile("[0-9]+");

    List<int[]> words = new ArrayList<>();
    List<String> forms = new ArrayList<>();
    int[] metres = new int[8];
    List<int[]> paper = new ArrayList<>();
    List<int[]> stock = new ArrayList<>();
    List<List<int[]>> images = noImages();
    StringBuilder text = new StringBuilder();
    long trace = 0;

    // What a word sounds like in the second dialect, if it is this one: as in the first.
    private int parted = -1;

    int[] states;
    int[] anchors;

    private static List<List<int[]>> noImages() {
        List<List<int[]>> none = new ArrayList<>();
        none.add(null);
        none.add(null);
        return none;
    }

    private static List<int[]> copy(List<int[]> lines) {
        List<int[]> other = new ArrayList<>();
        for (int[] line : lines) {
            other.add(line.clone());
        }
        return other;
    }

    // ---- the text

    int type(long v, int n) {
        if (n < 1 || n > 8) {
            return -1;
        }
        if (text.length() + n > 500) {
            return -3;
        }
        String hex = String.format("%016x", v);
        for (int k = 8 - n; k < 8; k++) {
            text.append((char) Integer.parseInt(hex.substring(2 * k, 2 * k + 2), 16));
        }
        return text.length();
    }

    int clear() {
        int had = text.length();
        text.setLength(0);
        return had;
    }

    /** The places where tokens begin, and the tokens; one that is none is told as "?". */
    private void tokens(List<Integer> places, List<String> tokens) {
        int at = 0;
        while (true) {
            while (at < text.length() && text.charAt(at) == ' ') {
                at++;
            }
            places.add(at);
            if (at == text.length()) {
                tokens.add("");
                return;
            }
            Matcher digits = DIGITS.matcher(text).region(at, text.length());
            Matcher token = TOKEN.matcher(text).region(at, text.length());
            boolean isToken = token.lookingAt();
            boolean isNumber = digits.lookingAt();
            if (!isToken || isNumber && digits.end() != token.end()) {
                tokens.add("?");
                return;
            }
            tokens.add(token.group());
            at = token.end();
        }
    }

    int read() {
        List<Integer> places = new ArrayList<>();
        List<String> tokens = new ArrayList<>();
        tokens(places, tokens);
        Model fresh = new Model();
        int items = 0;
        int at = 0;
        while (!tokens.get(at).isEmpty()) {
            String kind = tokens.get(at);
            String[] slots = fresh.slots(kind);
            if (slots == null) {
                return -10 - places.get(at);
            }
            List<String> parts = new ArrayList<>();
            for (String slot : slots) {
                at++;
                if (!tokens.get(at).matches(slot)) {
                    return -10 - places.get(at);
                }
                parts.add(tokens.get(at));
            }
            at++;
            items++;
            fresh.enter(kind, parts);
        }
        words = fresh.words;
        forms = fresh.forms;
        metres = fresh.metres;
        paper = fresh.paper;
        stock = fresh.stock;
        images = noImages();
        text.setLength(0);
        return items;
    }

    private static String upTo(int low, int high) {
        StringBuilder some = new StringBuilder("none");
        for (int k = low; k <= high; k++) {
            some.append('|').append(k);
        }
        return "(?!none)(" + some + ")";
    }

    private String[] slots(String kind) {
        switch (kind) {
            case "word":
                return words.size() == 16 ? null
                        : new String[] {upTo(0, 25), upTo(0, 25), upTo(0, 9), upTo(1, 4), ";"};
            case "form":
                return forms.size() == 2 ? null : new String[] {"[a-h]{1,8}", ";"};
            case "metre":
                return new String[] {"[a-h]", upTo(0, 20), ";"};
            case "line":
                return paper.size() == 8 ? null
                        : new String[] {upTo(0, words.size() - 1), upTo(0, 9), upTo(0, 16), ";"};
            case "stock":
                return stock.size() == 6 ? null
                        : new String[] {upTo(0, words.size() - 1), upTo(0, 9), upTo(0, 16), ";"};
            default:
                return null;
        }
    }

    private void enter(String kind, List<String> parts) {
        if (kind.equals("form")) {
            forms.add(parts.get(0));
        } else if (kind.equals("metre")) {
            metres[parts.get(0).charAt(0) - 'a'] = Integer.parseInt(parts.get(1));
        } else {
            int[] numbers = new int[parts.size() - 1];
            for (int k = 0; k < numbers.length; k++) {
                numbers[k] = Integer.parseInt(parts.get(k));
            }
            (kind.equals("word") ? words : kind.equals("line") ? paper : stock).add(numbers);
        }
    }

    // ---- words, forms, papers

    private static boolean in(int n, int low, int high) {
        return n >= low && n <= high;
    }

    private static int part(List<int[]> rows, int i, int what, int parts) {
        return in(i, 0, rows.size() - 1) && in(what, 0, parts - 1) ? rows.get(i)[what] : -1;
    }

    int word(int w, int what) {
        return part(words, w, what, 4);
    }

    private int letter(int f, int i) {
        return forms.get(f).charAt(i % forms.get(f).length()) - 'a';
    }

    int form(int f, int i) {
        return in(f, 0, forms.size() - 1) && in(i, 0, 99) ? letter(f, i) : -1;
    }

    int metre(int letter, int n) {
        if (!in(letter, 0, 7) || !in(n, 0, 20)) {
            return -1;
        }
        int was = metres[letter];
        metres[letter] = n;
        return was;
    }

    int line(int i, int what) {
        return part(paper, i, what, 3);
    }

    int stock(int i, int what) {
        return part(stock, i, what, 3);
    }

    int put(int p, int word, int thing, int before) {
        if (!in(p, 0, paper.size()) || !in(word, 0, words.size() - 1) || !in(thing, 0, 9) || !in(before, 0, 16)) {
            return -1;
        }
        if (paper.size() == 8) {
            return -3;
        }
        paper.add(p, new int[] {word, thing, before});
        return paper.size();
    }

    int change(int i, int word) {
        if (!in(i, 0, paper.size() - 1) || !in(word, 0, words.size() - 1)) {
            return -1;
        }
        int was = paper.get(i)[0];
        paper.get(i)[0] = word;
        return was;
    }

    int take(int i) {
        if (!in(i, 0, paper.size() - 1)) {
            return -1;
        }
        paper.remove(i);
        return paper.size();
    }

    // ---- judged

    private int sound(int d, int w) {
        return words.get(w)[w == parted ? 0 : d];
    }

    /** 0 falls, 1 opens, 2 rhymed. */
    private void judge(List<int[]> lines, int f, int d) {
        states = new int[lines.size()];
        anchors = new int[lines.size()];
        for (int i = 0; i < lines.size(); i++) {
            anchors[i] = -9;
            int[] line = lines.get(i);
            int metre = metres[letter(f, i)];
            if (metre != 0 && metre != line[2] + words.get(line[0])[3]) {
                continue;
            }
            int nearest = -1;
            for (int j = 0; j < i; j++) {
                if (letter(f, j) == letter(f, i) && states[j] > 0) {
                    nearest = j;
                }
            }
            if (nearest < 0) {
                states[i] = 1;
            } else if (lines.get(nearest)[0] != line[0] && sound(d, lines.get(nearest)[0]) == sound(d, line[0])) {
                states[i] = 2;
                anchors[i] = nearest;
            }
        }
    }

    private boolean binds(int i) {
        return states[i] == 2 || states[i] == 1 && anchorsOne(i, 0);
    }

    private boolean anchorsOne(int i, int lapsed) {
        for (int j = 0; j < anchors.length; j++) {
            if (anchors[j] == i && (lapsed >> j & 1) == 0) {
                return true;
            }
        }
        return false;
    }

    private boolean isLaw(List<int[]> lines, int f, int d) {
        judge(lines, f, d);
        return !lines.isEmpty() && firstLoose() == -9;
    }

    private int firstLoose() {
        for (int i = 0; i < states.length; i++) {
            if (!binds(i)) {
                return i;
            }
        }
        return -9;
    }

    private boolean noView(int f, int d) {
        return !in(f, 0, forms.size() - 1) || !in(d, 0, 1);
    }

    int judged(int f, int d, int i, int what) {
        if (noView(f, d) || !in(i, 0, paper.size() - 1) || !in(what, 0, 3)) {
            return -1;
        }
        judge(paper, f, d);
        int[] answers = {states[i] > 0 ? 1 : 0, states[i] == 1 ? 1 : 0, binds(i) ? 1 : 0, anchors[i]};
        return answers[what];
    }

    int law(int f, int d) {
        return noView(f, d) ? -1 : isLaw(paper, f, d) ? 1 : 0;
    }

    int empty(int f, int d) {
        if (noView(f, d)) {
            return -1;
        }
        judge(paper, f, d);
        return firstLoose();
    }

    private int things(List<int[]> lines) {
        int things = 0;
        for (int i = 0; i < lines.size(); i++) {
            if (binds(i)) {
                things |= 1 << lines.get(i)[1];
            }
        }
        return things;
    }

    int bound(int f, int d) {
        if (noView(f, d)) {
            return -1;
        }
        judge(paper, f, d);
        return things(paper);
    }

    private int left(int set) {
        int lapsed = set & (1 << states.length) - 1;
        for (int round = 0; round < 9; round++) {
            for (int i = 0; i < states.length; i++) {
                if (anchors[i] >= 0 && (lapsed >> anchors[i] & 1) != 0) {
                    lapsed |= 1 << i;
                }
            }
        }
        int left = 0;
        for (int i = 0; i < states.length; i++) {
            if (binds(i) && (lapsed >> i & 1) == 0 && (states[i] != 1 || anchorsOne(i, lapsed))) {
                left |= 1 << i;
            }
        }
        return left;
    }

    int struck(int f, int d, int set) {
        if (noView(f, d)) {
            return -1;
        }
        judge(paper, f, d);
        return left(set);
    }

    int key(int f, int d) {
        if (noView(f, d)) {
            return -1;
        }
        judge(paper, f, d);
        int key = -9;
        for (int i = 0; i < paper.size(); i++) {
            if (key < 0 || Integer.bitCount(left(1 << i)) < Integer.bitCount(left(1 << key))) {
                key = i;
            }
        }
        return key;
    }

    // ---- other papers

    private int[] best;
    private int fewest;

    private void tryMended(List<int[]> lines, int i, int changes, int f, int d) {
        if (changes >= fewest) {
            return;
        }
        if (i == lines.size()) {
            if (isLaw(lines, f, d)) {
                fewest = changes;
                best = new int[i];
                for (int k = 0; k < i; k++) {
                    best[k] = lines.get(k)[0];
                }
            }
            return;
        }
        int was = paper.get(i)[0];
        for (int w = 0; w < words.size(); w++) {
            if (words.get(w)[2] == words.get(was)[2]) {
                lines.get(i)[0] = w;
                tryMended(lines, i + 1, changes + (w == was ? 0 : 1), f, d);
            }
        }
        lines.get(i)[0] = was;
    }

    int mended(int f, int d, int i) {
        if (noView(f, d) || !in(i, -1, paper.size() - 1)) {
            return -1;
        }
        fewest = 99;
        tryMended(copy(paper), 0, 0, f, d);
        return fewest == 99 ? -9 : i < 0 ? fewest : best[i];
    }

    private List<Integer> shortest;

    private void tryRows(List<Integer> row, int f, int d, int things) {
        List<int[]> lines = new ArrayList<>();
        for (int s : row) {
            lines.add(stock.get(s));
        }
        if ((shortest == null || row.size() < shortest.size()) && isLaw(lines, f, d)
                && (things(lines) & things) == things) {
            shortest = new ArrayList<>(row);
        }
        for (int s = 0; s < stock.size(); s++) {
            if (!row.contains(s)) {
                row.add(s);
                tryRows(row, f, d, things);
                row.remove(row.size() - 1);
            }
        }
    }

    int shortest(int f, int d, int things, int i) {
        if (noView(f, d) || !in(things, 0, 1023) || i < -1) {
            return -1;
        }
        shortest = null;
        tryRows(new ArrayList<>(), f, d, things);
        if (shortest == null) {
            return -9;
        }
        return i < 0 ? shortest.size() : i < shortest.size() ? shortest.get(i) : -5;
    }

    int both(int d) {
        if (forms.size() < 2 || !in(d, 0, 1)) {
            return -1;
        }
        return isLaw(paper, 0, d) && isLaw(paper, 1, d) ? 1 : 0;
    }

    int parting(int f) {
        if (!in(f, 0, forms.size() - 1)) {
            return -1;
        }
        if (!isLaw(paper, f, 0) || isLaw(paper, f, 1)) {
            return -9;
        }
        int least = -9;
        for (int[] line : paper) {
            parted = line[0];
            if (isLaw(paper, f, 1) && (least < 0 || line[0] < least)) {
                least = line[0];
            }
            parted = -1;
        }
        return least;
    }

    int forged(int f, int d, int k) {
        if (noView(f, d) || !in(k, 0, paper.size() - 1)) {
            return -1;
        }
        judge(paper, f, d);
        if (!binds(k)) {
            return -2;
        }
        if (paper.size() == 8) {
            return -3;
        }
        for (int p = 0; p <= paper.size(); p++) {
            for (int s = 0; s < stock.size(); s++) {
                List<int[]> lines = new ArrayList<>(paper);
                int[] followed = paper.get(k);
                lines.add(p, stock.get(s).clone());
                judge(lines, f, d);
                for (int i = 0; i < lines.size(); i++) {
                    if (lines.get(i) == followed && !binds(i)) {
                        return 10 * p + s;
                    }
                }
            }
        }
        return -9;
    }

    private long ways;
    private int[] seen;

    private void tryBurnt(List<int[]> lines, int i, int f, int d, int set) {
        if (i == lines.size()) {
            if (isLaw(lines, f, d)) {
                ways++;
                for (int k = 0; k < i; k++) {
                    seen[k] |= 1 << lines.get(k)[0];
                }
            }
            return;
        }
        if ((set >> i & 1) == 0) {
            tryBurnt(lines, i + 1, f, d, set);
            return;
        }
        int was = lines.get(i)[0];
        for (int w = 0; w < words.size(); w++) {
            lines.get(i)[0] = w;
            tryBurnt(lines, i + 1, f, d, set);
        }
        lines.get(i)[0] = was;
    }

    long burnt(int f, int d, int set, int i) {
        if (noView(f, d) || !in(i, -1, paper.size() - 1)) {
            return -1;
        }
        ways = 0;
        seen = new int[8];
        tryBurnt(copy(paper), 0, f, d, set);
        return i < 0 ? ways : Integer.bitCount(seen[i]);
    }

    // ---- kinds, images

    private static final long[] TOLLS = {1, 10, 100, 1000, 10000, 100000};
    private static final int[] ABOVE = {-1, 0, 0, 2, 1, 0};

    int rate(int kind, int i) {
        if (!in(kind, 0, 5) || !in(i, 0, paper.size() - 1)) {
            return -1000000;
        }
        trace += TOLLS[kind];
        int[] line = paper.get(i);
        int[] word = words.get(line[0]);
        int up = kind == 0 ? 0 : rate(ABOVE[kind], i);
        int[] rates = {line[1], up + word[3], up + line[2], up + up, up + i, up - word[2]};
        return rates[kind];
    }

    int keep(int image) {
        if (!in(image, 0, 1)) {
            return -1;
        }
        images.set(image, copy(paper));
        return paper.size();
    }

    int back(int image) {
        if (!in(image, 0, 1)) {
            return -1;
        }
        if (images.get(image) == null) {
            return -2;
        }
        paper = copy(images.get(image));
        return paper.size();
    }

    int count(int what) {
        int[] counts = {words.size(), forms.size(), paper.size(), stock.size(), text.length()};
        return in(what, 0, 4) ? counts[what] : -1;
    }

    long trace() {
        return trace;
    }
}

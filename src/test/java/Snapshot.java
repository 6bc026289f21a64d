import java.util.Arrays;

/** All that an object holds, asked by its own calls; the object is used up by it (some 330 calls). */
final class Snapshot {
    static String[] of(RhymeLaw x) {
        // The calls that change something come last, the text behind all: to read it is to lose the rest.
        return new String[] {
            "told " + told(x), "lines " + lines(x), "trace " + x.trace(), "metres " + metres(x),
            "image 0 " + x.back(0) + lines(x), "image 1 " + x.back(1) + lines(x),
            "text " + x.count(4) + ", read " + x.read() + ", left " + x.count(4),
            "told by the text " + told(x), "lines of the text " + lines(x), "metres of the text " + metres(x)};
    }

    private static String told(RhymeLaw x) {
        int[] counts = {x.count(0), x.count(1), x.count(3)};
        StringBuilder seen = new StringBuilder(Arrays.toString(counts));
        for (int w = 0; w < 16; w++) {
            seen.append(' ').append(x.word(w, 0)).append('/').append(x.word(w, 1));
            seen.append('/').append(x.word(w, 2)).append('/').append(x.word(w, 3));
        }
        for (int f = 0; f < 2; f++) {
            for (int i = 0; i <= 8; i++) {
                seen.append(i == 0 ? " form " : "").append(x.form(f, i));
            }
        }
        for (int i = 0; i < 6; i++) {
            seen.append(" stock ").append(x.stock(i, 0)).append('/').append(x.stock(i, 1)).append('/').append(x.stock(i, 2));
        }
        return seen.toString();
    }

    private static String lines(RhymeLaw x) {
        StringBuilder seen = new StringBuilder(" of ").append(x.count(2));
        for (int i = 0; i < x.count(2) && i < 8; i++) {
            seen.append(' ').append(x.line(i, 0)).append('/').append(x.line(i, 1)).append('/').append(x.line(i, 2));
        }
        return seen.toString();
    }

    private static String metres(RhymeLaw x) {
        int[] metres = new int[8];
        for (int letter = 0; letter < 8; letter++) {
            metres[letter] = x.metre(letter, 0);
        }
        return Arrays.toString(metres);
    }
}

/** How the class is used; README.md shows this file and what it prints. */
public final class Example {
    /** Eight bytes a call, the first of them the highest: an object is good for 512 calls. */
    static void type(RhymeLaw x, String text) {
        for (int from = 0; from < text.length(); from += 8) {
            int n = Math.min(8, text.length() - from);
            long v = 0;
            for (int k = 0; k < n; k++) {
                v = v << 8 | text.charAt(from + k);
            }
            x.type(v, n);
        }
    }

    public static void main(String[] args) {
        RhymeLaw x = new RhymeLaw();
        // A word: its sounds in dialects 0 and 1, meaning, syllables; a line: its word, thing, syllables before.
        type(x, "word 0 0 0 1; word 0 1 0 1; word 1 1 2 1; word 1 1 2 2; word 9 0 0 3;");
        type(x, "form ab; form aabb;");
        type(x, "line 0 3 1; line 2 4 0; line 1 5 1; line 3 6 0; stock 2 9 0;");
        System.out.println("items read: " + x.read());
        System.out.println("law by form 0 in dialect 0, in dialect 1: " + x.law(0, 0) + ", " + x.law(0, 1));
        System.out.println("the anchor of line 2: " + x.judged(0, 0, 2, 3));
        System.out.println("things bound, as bits: " + x.bound(0, 0));
        System.out.println("left, if line 0 is struck, as bits: " + x.struck(0, 0, 1));
        System.out.println("the word that parts the dialects: " + x.parting(0));
        System.out.println("words to change for law in dialect 1, and line 2's then: " + x.mended(0, 1, -1) + ", " + x.mended(0, 1, 2));
        System.out.println("a forged line by which line 2 lapses (10 p and its number): " + x.forged(0, 0, 2));
        System.out.println("ways, if all words were burnt: " + x.burnt(0, 0, 15, -1));
        System.out.println("line 3 rated as a key, and the trace: " + x.rate(4, 3) + ", " + x.trace());
        System.out.println("there is no line 4: " + x.line(4, 0));
        type(x, "form abz;");
        System.out.println("a fault at byte 5, and the bytes that stay: " + x.read() + ", " + x.count(4));
    }
}

import com.sun.management.ThreadMXBean;
import java.io.IOException;
import java.lang.management.ManagementFactory;
import java.lang.reflect.Array;
import java.lang.reflect.Constructor;
import java.lang.reflect.Field;
import java.lang.reflect.Method;
import java.lang.reflect.Modifier;
import java.nio.file.Files;
import java.nio.file.Path;
import java.util.ArrayList;
import java.util.IdentityHashMap;
import java.util.List;
import java.util.Map;
import java.util.Set;
import java.util.TreeSet;

/** The face of the class, the rules of LANGUAGE.md that its source shows, and what an object takes of the room. */
final class LanguageTests {
    private static final String[] FACE = {
        "int type(long,int)", "int clear()", "int read()", "int word(int,int)", "int form(int,int)",
        "int metre(int,int)", "int line(int,int)", "int stock(int,int)", "int put(int,int,int,int)",
        "int change(int,int)", "int take(int)", "int judged(int,int,int,int)", "int law(int,int)",
        "int empty(int,int)", "int bound(int,int)", "int struck(int,int,int)", "int key(int,int)",
        "int mended(int,int,int)", "int shortest(int,int,int,int)", "int both(int)", "int parting(int)",
        "int forged(int,int,int)", "long burnt(int,int,int,int)", "int rate(int,int)", "int keep(int)",
        "int back(int)", "int count(int)", "long trace()"};
    private static final String[] CONSTANTS = {"BAD", "STATE", "FULL", "NONE", "NO"};
    // A rule's number, and what breaks it.
    private static final String[][] SPOILT = {
        {"2", "class Inner { }"},
        {"2", "private int a() { class Local { } return 1; }"},
        {"2", "interface Act { int f(); } private int a() { Act act = () -> 1; return act.f(); }"},
        {"2", "interface Act { int f(); } private int b() { return 1; } private Act a() { return this::b; }"},
        {"2", "interface Act { int f(); } private Act a() { return new Act() { public int f() { return 1; } }; }"},
        {"3", "private Object any;"},
        {"3", "private String[] texts;"},
        {"3", "private int[][][] rows;"},
        {"3", "private Map<Integer, Integer> map;"},
        {"3", "private List<String> list;"},
        {"4", "private int a() { return Math.addExact(1, 2); }"},
        {"4", "private int a(String text) { return text.hashCode(); }"},
        {"4", "private long a() { return System.nanoTime(); }"},
        {"4", "private int a() { return new Random().nextInt(); }"},
        {"4", "private int a() { return Integer.parseInt(\"7\") + Integer.toString(7).length(); }"},
        {"4", "private static final String SIGN = \"\u00e9\";"},
        {"5", "private static int state;"},
        {"5", "private static final List<Integer> LIST = List.of(1);"},
        {"5", "private static final int ONE; static { ONE = 1; }"},
        {"6", "private void a() { throw new IllegalArgumentException(); }"},
        {"6", "private int a() { try { return 1; } finally { a(); } }"},
        {"6", "private void a() { assert 1 > 0; }"},
        {"6", "private void a() { synchronized (this) { } }"},
        {"6", "private boolean a(String one, String two) { return one == two; }"},
        {"6", "private boolean a(Integer one, Integer two) { return one != two; }"},
        {"6", "public int hashCode() { return 1; }"},
        {"8", "int a(int n) { return n == 0 ? 0 : a(n - 1); }"},
        {"10", "private String a(int n) { return \"\" + n; }"},
        {"10", "private String a(String text) { text += 1; return text; }"},
        {"10", "private int a(String text) { switch (text) { default: return 1; } }"},
        {"11", "private int a(int b, int c, int d, int e, int f, int g, int h, int i) { return 1; }"},
        {"11", "private void a() {" + "\n".repeat(70) + "}"},
        {"11", "private int a, b, c, d, e, f, g, h, i, j, k, l, m, n, o, p, q, r, s, t, u, v, w;"},
        {"11", "private void a() { b(); } private void b() { c(); } private void c() { d(); } private void d() { e(); }"
                + "private void e() { f(); } private void f() { g(); } private void g() { h(); } private void h() { i(); }"
                + "private void i() { j(); } private void j() { }"}};
    private static final String[] FINE = {
        "private static int a(int n) { return n <= 0 ? 0 : a(n - 1); }",
        "private boolean a(String text) { return text.equals(\"a\") && text.length() > Math.max(0, 1); }",
        "private int[] a(int[] row) { return row == null ? new int[2] : row.clone(); }",
        "private enum Kind { ONE(1), TWO(2); private final int n; Kind(int n) { this.n = n; } }",
        "interface Part { int size(); } record One(int a) implements Part { public int size() { return a; } }"
                + "private int a(Part part) { return part instanceof One one ? one.a() : ((Part) part).size(); }",
        "private long a(long v) { return Long.bitCount(v) + Integer.compare(1, 2) + (char) 233; }"};

    private static String signature(Method method) {
        StringBuilder text = new StringBuilder(method.getReturnType() + " " + method.getName() + "(");
        for (Class<?> part : method.getParameterTypes()) {
            text.append(text.charAt(text.length() - 1) == '(' ? "" : ",").append(part);
        }
        return text.append(")").toString();
    }

    private static void face() {
        Class<?> face = RhymeLaw.class;
        Check.holds("public and final", Modifier.isPublic(face.getModifiers()) && Modifier.isFinal(face.getModifiers()));
        Set<String> due = new TreeSet<>(List.of(FACE));
        Set<String> names = new TreeSet<>();
        Set<String> found = new TreeSet<>();
        for (Method method : face.getDeclaredMethods()) {
            if (Modifier.isPublic(method.getModifiers())) {
                found.add(signature(method));
                names.add(method.getName());
                Check.holds(method + " is no static one", !Modifier.isStatic(method.getModifiers()));
            } else {
                Check.holds(method + " is private", Modifier.isPrivate(method.getModifiers()));
            }
        }
        Check.holds("the calls are those of the document: " + found, found.equals(due));
        for (Method method : face.getDeclaredMethods()) {
            Check.holds(method + " bears its own name",
                    Modifier.isPublic(method.getModifiers()) || !names.contains(method.getName()));
        }
        Set<String> constants = new TreeSet<>();
        for (Field field : face.getDeclaredFields()) {
            int modifiers = field.getModifiers();
            if (Modifier.isPublic(modifiers)) {
                constants.add(field.getName());
                Check.holds(field + " is an int", field.getType() == int.class);
            }
            Check.holds(field + " may be seen", Modifier.isPublic(modifiers) || Modifier.isPrivate(modifiers));
            Check.holds(field + " is no other static state", !Modifier.isStatic(modifiers) || Modifier.isFinal(modifiers));
        }
        Check.holds("the constants are those of the document: " + constants,
                constants.equals(new TreeSet<>(List.of(CONSTANTS))));
        Constructor<?>[] made = face.getDeclaredConstructors();
        Check.holds("one constructor", made.length == 1 && Modifier.isPublic(made[0].getModifiers())
                && made[0].getParameterCount() == 0);
    }

    /** The rules that the source shows; each of them first on a source that breaks it. */
    private static void rules() throws IOException {
        for (String[] spoilt : SPOILT) {
            List<String> told = SourceRules.breaches("import java.util.*;\npublic final class RhymeLaw {\n" + spoilt[1] + "\n}\n");
            boolean found = false;
            for (String breach : told) {
                found |= breach.startsWith("rule " + spoilt[0] + ",");
            }
            Check.holds("a breach of rule " + spoilt[0] + " is found: " + spoilt[1] + " " + told, found);
        }
        for (String fine : FINE) {
            List<String> told = SourceRules.breaches("public final class RhymeLaw {\n" + fine + "\n}\n");
            Check.holds("no breach is found: " + fine + " " + told, told.isEmpty());
        }
        List<String> told = SourceRules.breaches(Files.readString(Path.of("src/main/java/RhymeLaw.java")));
        Check.holds("the class keeps to the rules: " + told, told.isEmpty());
    }

    private static void weigh(Object object, Map<Object, Integer> weights) throws IllegalAccessException {
        if (object == null || weights.containsKey(object)) {
            return;
        }
        if (object.getClass().isArray()) {
            weights.put(object, Array.getLength(object));
            return;
        }
        List<Object> parts = new ArrayList<>();
        int fields = 0;
        for (Field field : object.getClass().getDeclaredFields()) {
            if (!Modifier.isStatic(field.getModifiers())) {
                fields++;
                field.setAccessible(true);
                if (!field.getType().isPrimitive()) {
                    parts.add(field.get(object));
                }
            }
        }
        weights.put(object, fields);
        for (Object part : parts) {
            weigh(part, weights);
        }
    }

    /** A new object is small: a run of hundreds of them stays within some 600,000 objects, 7.3 million elements. */
    private static void objectsRoom() throws IllegalAccessException {
        Map<Object, Integer> weights = new IdentityHashMap<>();
        weigh(new RhymeLaw(), weights);
        int sum = 0;
        for (int weight : weights.values()) {
            sum += weight;
        }
        System.out.println("an object is " + weights.size() + " objects and arrays, " + sum + " fields and elements");
        Check.holds("objects", weights.size() <= 600);
        Check.holds("elements", sum <= 7300);
    }

    /** Each call that tries other papers, on papers and stocks of the most that there can be. */
    private static void dearestCalls(RhymeLaw x) {
        for (int round = 0; round < 20; round++) {
            int d = round & 1;
            x.read();
            x.law(0, d);
            x.key(0, d);
            x.struck(0, d, round);
            x.mended(0, d, -1);
            x.shortest(0, d, 1023, -1);
            x.shortest(0, d, 3, 1);
            x.both(d);
            x.parting(0);
            x.forged(0, d, 1);
            x.burnt(0, d, -1, -1);
            x.burnt(0, d, -1, 7);
            x.rate(4, 1);
            x.keep(d);
            x.take(0);
            x.back(d);
        }
    }

    /** Calls make next to nothing: 512 of an object would take a thousandth of the room at most. */
    private static void callsRoom() {
        String full = Check.times("word 1 1 1 1;", 15) + "form aab;form a;" + Check.times("line 1 0 0;line 2 1 0;", 4);
        RhymeLaw x = Check.told(full + Check.times("stock 3 2 0;", 6));
        Check.type(x, Check.times("word 0 0 0 1;", 17));
        x.take(7);
        ThreadMXBean meter = (ThreadMXBean) ManagementFactory.getThreadMXBean();
        long ahead = meter.getCurrentThreadAllocatedBytes();
        dearestCalls(x);
        long taken = meter.getCurrentThreadAllocatedBytes() - ahead;
        System.out.println("320 calls of an object took " + taken + " bytes");
        Check.holds("bytes that calls take", taken <= 100000);
    }

    public static void main(String[] args) throws IOException, IllegalAccessException {
        face();
        rules();
        objectsRoom();
        callsRoom();
        Check.end("LanguageTests");
    }
}

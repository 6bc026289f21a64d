import java.io.IOException;
import java.lang.reflect.Array;
import java.lang.reflect.Constructor;
import java.lang.reflect.Field;
import java.lang.reflect.Method;
import java.lang.reflect.Modifier;
import java.nio.file.Files;
import java.nio.file.Path;
import java.util.ArrayList;
import java.util.IdentityHashMap;
import java.util.List;
import java.util.Map;
import java.util.Set;
import java.util.TreeSet;

/** The face of the class, and the rules of LANGUAGE.md that can be seen from outside or in the source. */
final class LanguageTests {
    private static final String[] FACE = {
        "int type(long,int)", "int clear()", "int read()", "int word(int,int)", "int form(int,int)",
        "int metre(int,int)", "int line(int,int)", "int stock(int,int)", "int put(int,int,int,int)",
        "int change(int,int)", "int take(int)", "int judged(int,int,int,int)", "int law(int,int)",
        "int empty(int,int)", "int bound(int,int)", "int struck(int,int,int)", "int key(int,int)",
        "int mended(int,int,int)", "int shortest(int,int,int,int)", "int both(int)", "int parting(int)",
        "int forged(int,int,int)", "long burnt(int,int,int,int)", "int rate(int,int)", "int keep(int)",
        "int back(int)", "int count(int)", "long trace()"};
    private static final String[] CONSTANTS = {"BAD", "STATE", "FULL", "NONE", "NO"};
    private static final String[] BANNED = {"throw", "throws", "try", "catch", "finally", "synchronized", "assert",
        "volatile", "transient", "native", "package", "var", "yield", "equals", "hashCode", "toString",
        "System", "Thread", "Random", "Exception", "Object", "protected", "instanceof"};

    private static String signature(Method method) {
        StringBuilder text = new StringBuilder(method.getReturnType() + " " + method.getName() + "(");
        for (Class<?> part : method.getParameterTypes()) {
            text.append(text.charAt(text.length() - 1) == '(' ? "" : ",").append(part);
        }
        return text.append(")").toString();
    }

    private static void face() {
        Class<?> face = RhymeLaw.class;
        Check.holds("public and final", Modifier.isPublic(face.getModifiers()) && Modifier.isFinal(face.getModifiers()));
        Set<String> due = new TreeSet<>(List.of(FACE));
        Set<String> names = new TreeSet<>();
        Set<String> found = new TreeSet<>();
        for (Method method : face.getDeclaredMethods()) {
            if (Modifier.isPublic(method.getModifiers())) {
                found.add(signature(method));
                names.add(method.getName());
                Check.holds(method + " is no static one", !Modifier.isStatic(method.getModifiers()));
            } else {
                Check.holds(method + " is private", Modifier.isPrivate(method.getModifiers()));
            }
        }
        Check.holds("the calls are those of the document: " + found, found.equals(due));
        for (Method method : face.getDeclaredMethods()) {
            Check.holds(method + " bears its own name",
                    Modifier.isPublic(method.getModifiers()) || !names.contains(method.getName()));
        }
        Set<String> constants = new TreeSet<>();
        for (Field field : face.getDeclaredFields()) {
            int modifiers = field.getModifiers();
            if (Modifier.isPublic(modifiers)) {
                constants.add(field.getName());
                Check.holds(field + " is an int", field.getType() == int.class);
            }
            Check.holds(field + " may be seen", Modifier.isPublic(modifiers) || Modifier.isPrivate(modifiers));
            Check.holds(field + " is no other static state", !Modifier.isStatic(modifiers) || Modifier.isFinal(modifiers));
        }
        Check.holds("the constants are those of the document: " + constants,
                constants.equals(new TreeSet<>(List.of(CONSTANTS))));
        Constructor<?>[] made = face.getDeclaredConstructors();
        Check.holds("one constructor", made.length == 1 && Modifier.isPublic(made[0].getModifiers())
                && made[0].getParameterCount() == 0);
        Check.holds("fields", face.getDeclaredFields().length < 50);
    }

    private static void inside() {
        Class<?>[] inside = RhymeLaw.class.getDeclaredClasses();
        Check.holds("some twelve classes", inside.length + 1 <= 12);
        for (Class<?> part : inside) {
            int modifiers = part.getModifiers();
            Check.holds(part + " is static", Modifier.isStatic(modifiers));
            Check.holds(part + " is not seen outside", !Modifier.isPublic(modifiers) && !Modifier.isProtected(modifiers));
            for (Field field : part.getDeclaredFields()) {
                Check.holds(field + " is no static state",
                        !Modifier.isStatic(field.getModifiers()) || Modifier.isFinal(field.getModifiers()));
            }
            for (Method method : part.getDeclaredMethods()) {
                Check.holds(method + " has seven parameters at most", method.getParameterCount() <= 7);
            }
        }
    }

    private static void source() throws IOException {
        String text = Files.readString(Path.of("src/main/java/RhymeLaw.java"));
        for (int i = 0; i < text.length(); i++) {
            if (text.charAt(i) > 126 || text.charAt(i) < 32 && text.charAt(i) != '\n') {
                Check.due("sign at " + i, text.charAt(i), 32);
            }
        }
        String code = text.replaceAll("(?s)/\\*.*?\\*/", " ").replaceAll("//[^\n]*", " ").replaceAll("\"[^\"\n]*\"", "\"\"");
        Check.holds("no arrow", !code.contains("->"));
        Check.holds("no method reference", !code.contains("::"));
        Set<String> words = new TreeSet<>(List.of(code.split("[^A-Za-z0-9_]+")));
        for (String banned : BANNED) {
            Check.holds("no " + banned, !words.contains(banned));
        }
        for (String line : code.split("\n")) {
            if (line.startsWith("import")) {
                Check.holds(line, line.equals("import java.util.Arrays;"));
            }
            if (line.contains("new ")) {
                Check.holds("made with the object itself:" + line, line.trim().matches("(this\\.|private |final ).*"));
            }
        }
    }

    /** A method's closing brace stands below its first sign. */
    private static void methods() throws IOException {
        List<String> lines = Files.readAllLines(Path.of("src/main/java/RhymeLaw.java"));
        for (int i = 0; i < lines.size(); i++) {
            String line = lines.get(i);
            String margin = line.substring(0, line.length() - line.stripLeading().length());
            if (line.matches(" {4}(    )?\\w.*\\) \\{") && !line.matches(" *(if|for|while|switch|\\}).*")) {
                int end = lines.subList(i, lines.size()).indexOf(margin + "}");
                Check.holds("some sixty lines:" + line, end > 0 && end <= 60);
            }
        }
    }

    private static void weigh(Object object, Map<Object, Integer> weights) throws IllegalAccessException {
        if (object == null || weights.containsKey(object)) {
            return;
        }
        if (object.getClass().isArray()) {
            weights.put(object, Array.getLength(object));
            return;
        }
        List<Object> parts = new ArrayList<>();
        int fields = 0;
        for (Field field : object.getClass().getDeclaredFields()) {
            if (!Modifier.isStatic(field.getModifiers())) {
                fields++;
                field.setAccessible(true);
                if (!field.getType().isPrimitive()) {
                    parts.add(field.get(object));
                }
            }
        }
        weights.put(object, fields);
        for (Object part : parts) {
            weigh(part, weights);
        }
    }

    /** All that an object holds is made with it: a run of many objects stays far below the room. */
    private static void room() throws IllegalAccessException {
        Map<Object, Integer> weights = new IdentityHashMap<>();
        weigh(new RhymeLaw(), weights);
        int sum = 0;
        for (int weight : weights.values()) {
            sum += weight;
        }
        System.out.println("an object is " + weights.size() + " objects and arrays, " + sum + " fields and elements");
        Check.holds("objects", weights.size() <= 120);
        Check.holds("elements", sum <= 2400);
    }

    public static void main(String[] args) throws IOException, IllegalAccessException {
        face();
        inside();
        source();
        methods();
        room();
        Check.end("LanguageTests");
    }
}

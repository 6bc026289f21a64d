import java.io.ByteArrayOutputStream;
import java.io.IOException;
import java.io.PrintStream;
import java.lang.reflect.Method;
import java.lang.reflect.Modifier;
import java.nio.file.Files;
import java.nio.file.Path;

/** What README.md says of the class is so: the example, what it prints, each call by its name. */
final class ReadmeTests {
    private static String printed() {
        PrintStream out = System.out;
        ByteArrayOutputStream bytes = new ByteArrayOutputStream();
        System.setOut(new PrintStream(bytes, true));
        Example.main(new String[0]);
        System.setOut(out);
        return bytes.toString().replace("\r\n", "\n");
    }

    public static void main(String[] args) throws IOException {
        String readme = Files.readString(Path.of("README.md"));
        String example = Files.readString(Path.of("src/test/java/Example.java"));
        String printed = printed();
        Check.holds("README.md shows the example", readme.contains("```java\n" + example + "```\n"));
        Check.holds("README.md shows what it prints: " + printed, readme.contains("```text\n" + printed + "```\n"));
        for (Method call : RhymeLaw.class.getDeclaredMethods()) {
            if (Modifier.isPublic(call.getModifiers())) {
                Check.holds("README.md names " + call.getName(), readme.contains("`" + call.getName() + "("));
            }
        }
        Check.end("ReadmeTests");
    }
}

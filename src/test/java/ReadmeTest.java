import java.io.ByteArrayOutputStream;
import java.io.File;
import java.io.IOException;
import java.io.PrintStream;
import java.lang.reflect.Method;
import java.lang.reflect.Modifier;
import java.nio.charset.StandardCharsets;
import java.nio.file.Files;
import java.nio.file.Path;

/** README.md shows the example as it stands and what it prints, and names every call and every test. */
public final class ReadmeTest {
    private static final String TESTS = "src/test/java";
    private static final Bench BENCH = new Bench();

    public static void main(String[] args) throws IOException {
        String readme = Files.readString(Path.of("README.md"));
        String program = Files.readString(Path.of(TESTS, "Example.java"));
        has(readme, "```java\n" + program + "```\n", "Example.java");
        has(readme, "```text\n" + printed() + "```\n", "what Example prints");
        for (Method method : RoofRegatta.class.getDeclaredMethods()) {
            if (Modifier.isPublic(method.getModifiers())) {
                has(readme, "`" + method.getName() + "`", method.getName());
            }
        }
        String[] files = new File(TESTS).list();
        for (String file : files == null ? new String[0] : files) {
            if (file.endsWith("Test.java")) {
                has(readme, "`" + file.replace(".java", "") + "`", file);
            }
        }
        BENCH.end();
    }

    private static void has(String readme, String part, String name) {
        BENCH.due("README.md has " + name, readme.contains(part), true);
    }

    private static String printed() {
        PrintStream before = System.out;
        ByteArrayOutputStream bytes = new ByteArrayOutputStream();
        System.setOut(new PrintStream(bytes, true, StandardCharsets.US_ASCII));
        Example.main(new String[0]);
        System.setOut(before);
        return bytes.toString(StandardCharsets.US_ASCII).replace(System.lineSeparator(), "\n");
    }
}

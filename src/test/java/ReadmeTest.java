import java.io.ByteArrayOutputStream;
import java.io.File;
import java.io.IOException;
import java.io.PrintStream;
import java.lang.reflect.Method;
import java.lang.reflect.Modifier;
import java.nio.charset.StandardCharsets;
import java.nio.file.Files;
import java.nio.file.Path;

/** README.md shows the example as it stands and what it prints, and names every call and every test. */
final class ReadmeTest {
    private static final String TESTS = "src/test/java";

    public static void main(String[] args) throws IOException {
        String readme = Files.readString(Path.of("README.md"));
        Check.equal("the example", Files.readString(Path.of(TESTS, "Example.java")), block(readme, "```java\n"));
        Check.equal("what it prints", printed(), block(readme, "```text\n"));
        namesEveryCall(readme);
        namesEveryTest(readme);
        Check.end("ReadmeTest");
    }

    /** What stands between a line that opens a block and the next one that closes it. */
    private static String block(String readme, String opening) {
        int start = readme.indexOf(opening);
        int end = start < 0 ? -1 : readme.indexOf("```", start + opening.length());
        return end < 0 ? "" : readme.substring(start + opening.length(), end);
    }

    private static String printed() {
        PrintStream before = System.out;
        ByteArrayOutputStream bytes = new ByteArrayOutputStream();
        System.setOut(new PrintStream(bytes, true, StandardCharsets.UTF_8));
        try {
            Example.main(new String[0]);
        } finally {
            System.setOut(before);
        }
        return bytes.toString(StandardCharsets.UTF_8).replace(System.lineSeparator(), "\n");
    }

    private static void namesEveryCall(String readme) {
        for (Method method : OrderSettler.class.getDeclaredMethods()) {
            if (Modifier.isPublic(method.getModifiers())) {
                Check.isTrue("README.md names " + method.getName(),
                        readme.matches("(?s).*`" + method.getName() + "[`(].*"));
            }
        }
    }

    private static void namesEveryTest(String readme) {
        String[] files = new File(TESTS).list((place, name) -> name.endsWith("Test.java"));
        Check.isTrue("there are tests", files != null && files.length > 0);
        for (String file : files == null ? new String[0] : files) {
            Check.isTrue("README.md names " + file, readme.contains("| " + file.replace(".java", "") + " |"));
        }
    }
}

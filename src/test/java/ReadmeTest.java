import java.io.ByteArrayOutputStream;
import java.io.IOException;
import java.io.PrintStream;
import java.lang.reflect.Method;
import java.lang.reflect.Modifier;
import java.nio.charset.StandardCharsets;
import java.nio.file.Files;
import java.nio.file.Path;

/** README.md shows the example as it is, and what it prints, and tells of every call. */
public final class ReadmeTest {
    private static final Path README = Path.of("README.md");
    private static final Path EXAMPLE = Path.of("src/test/java/Example.java");

    private final Due due = new Due();
    private final String readme;

    private ReadmeTest(String readme) {
        this.readme = readme;
    }

    public static void main(String[] args) throws IOException {
        ReadmeTest test = new ReadmeTest(Files.readString(README));
        test.due.same("the example", test.block("java"), Files.readString(EXAMPLE));
        test.due.same("what it prints", test.block("text"), printedByExample());
        test.everyCallIsTold();
        test.due.isTrue("how to run the tests is told", test.readme.contains("\n    .ci/run\n"));
        test.due.end();
    }

    /** The first block of this kind. */
    private String block(String kind) {
        String fence = "```" + kind + "\n";
        int start = readme.indexOf(fence);
        int end = readme.indexOf("```\n", start + fence.length());
        return start < 0 || end < 0 ? "" : readme.substring(start + fence.length(), end);
    }

    private static String printedByExample() {
        PrintStream before = System.out;
        ByteArrayOutputStream printed = new ByteArrayOutputStream();
        System.setOut(new PrintStream(printed, true, StandardCharsets.UTF_8));
        try {
            Example.main(new String[0]);
        } finally {
            System.setOut(before);
        }
        return printed.toString(StandardCharsets.UTF_8).replace(System.lineSeparator(), "\n");
    }

    private void everyCallIsTold() {
        for (Method method : KnitBench.class.getDeclaredMethods()) {
            if (Modifier.isPublic(method.getModifiers())) {
                due.isTrue(method.getName() + " is told", readme.contains("\n| `" + method.getName() + "("));
            }
        }
    }
}

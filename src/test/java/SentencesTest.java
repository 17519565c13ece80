import java.io.File;
import java.io.IOException;
import java.lang.reflect.Method;
import java.nio.file.Files;
import java.nio.file.Path;
import java.util.ArrayList;
import java.util.Arrays;
import java.util.List;

/**
 * Holds the tests against the document: what a test quotes must stand there, in its promise or in the
 * terms, and no sentence of these, or of what it is, may be left that no test quotes.
 */
public final class SentencesTest {
    private static final Path DOCUMENT = Path.of("../shared/DOC.md");
    private static final int PROMISES = 14;

    private final Due due = new Due();
    private final String document;
    private final List<Says> quotes = new ArrayList<>();

    private SentencesTest(String document) {
        this.document = document;
    }

    public static void main(String[] args) throws IOException, ClassNotFoundException {
        if (!Files.exists(DOCUMENT)) {
            System.out.println("no document at " + DOCUMENT + ": the quotes are not looked at");
            return;
        }
        SentencesTest test = new SentencesTest(Files.readString(DOCUMENT));
        test.collectQuotes();
        test.everyQuoteStands();
        test.everySentenceIsQuoted();
        test.due.end();
    }

    private void collectQuotes() throws ClassNotFoundException {
        String[] files = new File("src/test/java").list((dir, name) -> name.endsWith("Test.java"));
        Arrays.sort(files);
        for (String file : files) {
            for (Method method : Sentences.testsOf(Class.forName(file.replace(".java", "")))) {
                quotes.add(method.getAnnotation(Says.class));
            }
        }
        System.out.println(quotes.size() + " tests quote the document");
    }

    private void everyQuoteStands() {
        for (Says says : quotes) {
            String section = says.promise() == 0 ? plain("What it is") : plain("Promise " + says.promise() + ": ");
            boolean stands = section.contains(says.words()) || plain("Terms").contains(says.words());
            due.isTrue("'" + says.words() + "' stands in promise " + says.promise(), stands);
        }
    }

    private void everySentenceIsQuoted() {
        for (int promise = 1; promise <= PROMISES; promise++) {
            // The code in front of a promise's words is the face, which FaceTest looks at.
            same("promise " + promise, plain("Promise " + promise + ": ").replaceFirst("^`[^`]*`:", ""));
        }
        same("what it is", plain("What it is"));
        same("the terms", plain("Terms"));
    }

    private void same(String where, String section) {
        String left = section;
        for (Says says : quotes) {
            left = left.replace(says.words(), "|");
        }
        due.same("what no test quotes in " + where, left.replaceAll("[| ]+", " ").trim(), "");
    }

    /** A section in one line, without its heading and the fences of its code. */
    private String plain(String heading) {
        int start = document.indexOf("\n## " + heading);
        if (start < 0) {
            return "";
        }
        int body = document.indexOf('\n', start + 1);
        int end = document.indexOf("\n## ", body);
        String text = document.substring(body, end < 0 ? document.length() : end);
        return text.replace("```text", " ").replace("```", " ").replaceAll("\\s+", " ").trim();
    }
}

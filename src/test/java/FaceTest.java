import java.io.IOException;
import java.lang.reflect.Constructor;
import java.lang.reflect.Executable;
import java.lang.reflect.Field;
import java.lang.reflect.Method;
import java.lang.reflect.Modifier;
import java.nio.file.Files;
import java.nio.file.Path;
import java.util.ArrayList;
import java.util.List;
import java.util.Set;
import java.util.TreeSet;

/** The public face, and what of the rules of LANGUAGE.md can be seen by a look at the program. */
public final class FaceTest {
    private static final Path SOURCE = Path.of("src/main/java/KnitBench.java");
    private static final Path DOCUMENT = Path.of("../shared/DOC.md");
    private static final String[] FACE = {
        "public KnitBench()",
        "public void begin(int, boolean) throws IllegalArgumentException",
        "public int feed(long, int) throws IllegalArgumentException, IllegalStateException",
        "public int work()",
        "public int rows()",
        "public int unravel(int) throws IllegalArgumentException",
        "public int live(int)",
        "public int loop(int, int) throws IllegalArgumentException",
        "public int chart(int, int) throws IllegalArgumentException, IndexOutOfBoundsException",
        "public int row(int, int) throws IllegalArgumentException",
        "public int shorten(int) throws IllegalArgumentException",
        "public int out(int) throws IllegalArgumentException",
        "public int ladder(int) throws IllegalArgumentException",
        "public int total(int) throws IllegalArgumentException"};
    private static final String IMPORT =
        "import java\\.util\\.(ArrayList|List|Arrays|Iterator|NoSuchElementException);";
    // What no rule leaves: rules 2, 4, 5, 6, 10 and 13.
    private static final String[] RULED_OUT = {"package ", "::", "finally", "synchronized", "volatile", "native ",
        "static {", "assert ", "Exact(", "getMessage", "System.out", "System.err", "System.nanoTime",
        "System.currentTimeMillis", "System.getenv", "Thread", "Random", "java.io", "java.nio", "java.net",
        "java.time", "HashMap", "HashSet", "Object ", "Double.", "hashCode", "Throwable", "catch (Exception"};

    private final Due due = new Due();

    public static void main(String[] args) throws IOException {
        FaceTest test = new FaceTest();
        test.theFaceIsTheDocuments();
        test.theDocumentHasNoOtherFace();
        test.theClassesInsideKeepTheRules();
        test.nothingRuledOutStandsInTheSource();
        test.methodsAreShort();
        test.due.end();
    }

    private void theFaceIsTheDocuments() {
        Set<String> face = new TreeSet<>();
        for (Constructor<?> made : KnitBench.class.getDeclaredConstructors()) {
            addIfSeen(face, made, "");
        }
        for (Method method : KnitBench.class.getDeclaredMethods()) {
            addIfSeen(face, method, method.getReturnType().getSimpleName() + " ");
        }
        due.same("the face", face.toString(), dueFace().toString());
        for (Field field : KnitBench.class.getDeclaredFields()) {
            due.isTrue(field + " is not seen outside", Modifier.isPrivate(field.getModifiers()));
        }
        due.same("public final", KnitBench.class.getModifiers(), Modifier.PUBLIC | Modifier.FINAL);
    }

    private static Set<String> dueFace() {
        return new TreeSet<>(Set.of(FACE));
    }

    private static void addIfSeen(Set<String> seen, Executable one, String answer) {
        if (!Modifier.isPrivate(one.getModifiers())) {
            String thrown = names(one.getExceptionTypes());
            seen.add(Modifier.toString(one.getModifiers()) + " " + answer + one.getName()
                + "(" + names(one.getParameterTypes()) + ")" + (thrown.isEmpty() ? "" : " throws " + thrown));
        }
    }

    private static String names(Class<?>[] types) {
        List<String> names = new ArrayList<>();
        for (Class<?> type : types) {
            names.add(type.getSimpleName());
        }
        return String.join(", ", names);
    }

    /** When the document changes, this tells that FACE has to be looked at. */
    private void theDocumentHasNoOtherFace() throws IOException {
        if (!Files.exists(DOCUMENT)) {
            System.out.println("no document at " + DOCUMENT + ": its face is not looked at");
            return;
        }
        String text = Files.readString(DOCUMENT);
        int start = text.indexOf("```java");
        Set<String> face = new TreeSet<>();
        for (String line : text.substring(start, text.indexOf("```\n", start)).split("\n")) {
            if (line.endsWith(";")) {
                face.add(line.trim().replace(";", "").replaceAll("\\b(int|long|boolean) \\w+(?=[,)])", "$1"));
            }
        }
        due.same("the document's face", face.toString(), dueFace().toString());
    }

    private void theClassesInsideKeepTheRules() {
        List<Class<?>> all = new ArrayList<>(List.of(KnitBench.class));
        for (int i = 0; i < all.size(); i++) {
            all.addAll(List.of(all.get(i).getDeclaredClasses()));
        }
        due.isTrue("some twelve classes at the most", all.size() <= 13);
        for (Class<?> one : all) {
            int modifiers = one.getModifiers();
            if (one != KnitBench.class) {
                due.isTrue(one + " is static", Modifier.isStatic(modifiers));
                due.isTrue(one + " is not seen outside", (modifiers & (Modifier.PUBLIC | Modifier.PROTECTED)) == 0);
            }
            lookAtMembers(one);
        }
    }

    private void lookAtMembers(Class<?> one) {
        int fields = 0;
        for (Field field : one.getDeclaredFields()) {
            int modifiers = field.getModifiers();
            fields += Modifier.isStatic(modifiers) ? 0 : 1;
            due.isTrue(field + " is final, or not static",
                Modifier.isFinal(modifiers) || !Modifier.isStatic(modifiers));
        }
        due.isTrue(one + " has some twenty fields at the most", fields <= 20);
        for (Method method : one.getDeclaredMethods()) {
            due.isTrue(method + " takes at most seven", method.getParameterCount() <= 7);
            boolean bearsName = Modifier.isPrivate(method.getModifiers()) && isNameOfFace(method.getName());
            due.isTrue(method + " bears no name of the face", !bearsName);
        }
    }

    private static boolean isNameOfFace(String name) {
        for (Method method : KnitBench.class.getDeclaredMethods()) {
            if (Modifier.isPublic(method.getModifiers()) && method.getName().equals(name)) {
                return true;
            }
        }
        return false;
    }

    private void nothingRuledOutStandsInTheSource() throws IOException {
        String source = Files.readString(SOURCE).replaceAll("(?s)/\\*.*?\\*/|//[^\n]*", "");
        String code = source.replaceAll("\"[^\"\n]*\"", "\"\"");
        for (String word : RULED_OUT) {
            due.isTrue("'" + word + "' stands nowhere", !code.contains(word));
        }
        for (String line : code.split("\n")) {
            if (line.startsWith("import ")) {
                due.isTrue(line, line.matches(IMPORT));
            }
            boolean isSwitch = line.contains("case ") || line.contains("default ");
            due.isTrue("no lambda in '" + line.trim() + "'", isSwitch || !line.contains("->"));
        }
    }

    /** A method's last line is the first bracket that stands as far in as its first line. */
    private void methodsAreShort() throws IOException {
        int methods = 0;
        String head = "";
        int length = 0;
        for (String line : Files.readAllLines(SOURCE)) {
            boolean isHead = line.matches("( {4}| {8})\\w.*\\) (throws [\\w, ]+)?\\{");
            if (head.isEmpty() && isHead) {
                head = line;
                length = 0;
                methods++;
            }
            length++;
            if (!head.isEmpty() && line.equals(head.replaceAll("\\S.*", "") + "}")) {
                due.isTrue(head.trim() + " has at most sixty lines", length <= 60);
                head = "";
            }
        }
        due.isTrue("the methods were found", methods > FACE.length);
    }
}

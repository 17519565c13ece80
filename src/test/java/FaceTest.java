import java.io.IOException;
import java.lang.reflect.Constructor;
import java.lang.reflect.Field;
import java.lang.reflect.Method;
import java.lang.reflect.Modifier;
import java.nio.file.Files;
import java.nio.file.Path;
import java.util.ArrayList;
import java.util.List;
import java.util.Set;
import java.util.TreeSet;

/** The public face, and what of the rules of LANGUAGE.md can be seen by a look at the program. */
public final class FaceTest {
    private static final Path SOURCE = Path.of("src/main/java/KnitBench.java");
    private static final String[] FACE = {
        "public KnitBench()",
        "public void KnitBench.begin(int,boolean) throws java.lang.IllegalArgumentException",
        "public int KnitBench.feed(long,int) throws java.lang.IllegalArgumentException,java.lang.IllegalStateException",
        "public int KnitBench.work()",
        "public int KnitBench.rows()",
        "public int KnitBench.unravel(int) throws java.lang.IllegalArgumentException",
        "public int KnitBench.live(int)",
        "public int KnitBench.loop(int,int) throws java.lang.IllegalArgumentException",
        "public int KnitBench.chart(int,int) throws java.lang.IllegalArgumentException,"
            + "java.lang.IndexOutOfBoundsException",
        "public int KnitBench.row(int,int) throws java.lang.IllegalArgumentException",
        "public int KnitBench.shorten(int) throws java.lang.IllegalArgumentException",
        "public int KnitBench.out(int) throws java.lang.IllegalArgumentException",
        "public int KnitBench.ladder(int) throws java.lang.IllegalArgumentException",
        "public int KnitBench.total(int) throws java.lang.IllegalArgumentException"};
    private static final String IMPORT =
        "import java\\.util\\.(ArrayList|List|Arrays|Iterator|NoSuchElementException);";
    // What no rule leaves: rules 2, 4, 5, 6, 10 and 13.
    private static final String[] RULED_OUT = {"package ", "::", "finally", "synchronized", "volatile", "native ",
        "static {", "assert ", "Exact(", "getMessage", "System.out", "System.err", "System.nanoTime",
        "System.currentTimeMillis", "System.getenv", "Thread", "Random", "java.io", "java.nio", "java.net",
        "java.time", "HashMap", "HashSet", "Object ", "Double.", "hashCode", "Throwable", "catch (Exception"};

    private final Due due = new Due();

    public static void main(String[] args) throws IOException {
        FaceTest test = new FaceTest();
        test.theFaceIsTheDocuments();
        test.theClassesInsideKeepTheRules();
        test.nothingRuledOutStandsInTheSource();
        test.due.end();
    }

    private void theFaceIsTheDocuments() {
        Set<String> face = new TreeSet<>();
        for (Constructor<?> made : KnitBench.class.getDeclaredConstructors()) {
            addIfSeen(face, made.getModifiers(), made.toString());
        }
        for (Method method : KnitBench.class.getDeclaredMethods()) {
            addIfSeen(face, method.getModifiers(), method.toString());
        }
        for (Field field : KnitBench.class.getDeclaredFields()) {
            addIfSeen(face, field.getModifiers(), field.toString());
        }
        due.same("the face", face.toString(), new TreeSet<>(Set.of(FACE)).toString());
        due.same("public final", KnitBench.class.getModifiers(), Modifier.PUBLIC | Modifier.FINAL);
    }

    private static void addIfSeen(Set<String> seen, int modifiers, String text) {
        if (!Modifier.isPrivate(modifiers)) {
            seen.add(text);
        }
    }

    private void theClassesInsideKeepTheRules() {
        List<Class<?>> all = new ArrayList<>(List.of(KnitBench.class));
        for (int i = 0; i < all.size(); i++) {
            all.addAll(List.of(all.get(i).getDeclaredClasses()));
        }
        due.isTrue("some twelve classes at the most", all.size() <= 13);
        for (Class<?> one : all) {
            int modifiers = one.getModifiers();
            if (one != KnitBench.class) {
                due.isTrue(one + " is static", Modifier.isStatic(modifiers));
                due.isTrue(one + " is not seen outside", (modifiers & (Modifier.PUBLIC | Modifier.PROTECTED)) == 0);
            }
            lookAtMembers(one);
        }
    }

    private void lookAtMembers(Class<?> one) {
        for (Field field : one.getDeclaredFields()) {
            int modifiers = field.getModifiers();
            due.isTrue(field + " is final, or not static",
                Modifier.isFinal(modifiers) || !Modifier.isStatic(modifiers));
        }
        for (Method method : one.getDeclaredMethods()) {
            due.isTrue(method + " takes at most seven", method.getParameterCount() <= 7);
            boolean bearsName = Modifier.isPrivate(method.getModifiers()) && isNameOfFace(method.getName());
            due.isTrue(method + " bears no name of the face", !bearsName);
        }
    }

    private static boolean isNameOfFace(String name) {
        for (Method method : KnitBench.class.getDeclaredMethods()) {
            if (Modifier.isPublic(method.getModifiers()) && method.getName().equals(name)) {
                return true;
            }
        }
        return false;
    }

    private void nothingRuledOutStandsInTheSource() throws IOException {
        String source = Files.readString(SOURCE).replaceAll("(?s)/\\*.*?\\*/|//[^\n]*", "");
        String code = source.replaceAll("\"[^\"\n]*\"", "\"\"");
        for (String word : RULED_OUT) {
            due.isTrue("'" + word + "' stands nowhere", !code.contains(word));
        }
        for (String line : code.split("\n")) {
            if (line.startsWith("import ")) {
                due.isTrue(line, line.matches(IMPORT));
            }
            boolean isSwitch = line.contains("case ") || line.contains("default ");
            due.isTrue("no lambda in '" + line.trim() + "'", isSwitch || !line.contains("->"));
        }
    }
}

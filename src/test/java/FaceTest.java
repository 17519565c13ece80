import java.io.IOException;
import java.lang.reflect.Constructor;
import java.lang.reflect.Field;
import java.lang.reflect.Method;
import java.lang.reflect.Modifier;
import java.nio.file.Files;
import java.nio.file.Path;
import java.util.Set;
import java.util.TreeSet;

/** The public face, and what of the language's rules can be seen from outside. */
public final class FaceTest {
    private static final String[] FACE = {
        "public KnitBench()",
        "public void KnitBench.begin(int,boolean) throws java.lang.IllegalArgumentException",
        "public int KnitBench.feed(long,int) throws java.lang.IllegalArgumentException,java.lang.IllegalStateException",
        "public int KnitBench.work()",
        "public int KnitBench.rows()",
        "public int KnitBench.unravel(int) throws java.lang.IllegalArgumentException",
        "public int KnitBench.live(int)",
        "public int KnitBench.loop(int,int) throws java.lang.IllegalArgumentException",
        "public int KnitBench.chart(int,int) throws java.lang.IllegalArgumentException,"
            + "java.lang.IndexOutOfBoundsException",
        "public int KnitBench.row(int,int) throws java.lang.IllegalArgumentException",
        "public int KnitBench.shorten(int) throws java.lang.IllegalArgumentException",
        "public int KnitBench.out(int) throws java.lang.IllegalArgumentException",
        "public int KnitBench.ladder(int) throws java.lang.IllegalArgumentException",
        "public int KnitBench.total(int) throws java.lang.IllegalArgumentException"};
    private static final String[] RULED_OUT = {"import ", "->", "::", "finally", "synchronized", "assert ",
        "System.out", "Random", "catch", "Exact(", "hashCode", "toString"};

    public static void main(String[] args) throws IOException {
        Due due = new Due();
        Set<String> names = new TreeSet<>();
        Set<String> face = new TreeSet<>();
        for (Constructor<?> made : KnitBench.class.getDeclaredConstructors()) {
            addIfSeen(face, made.getModifiers(), made.toString());
        }
        for (Method method : KnitBench.class.getDeclaredMethods()) {
            addIfSeen(face, method.getModifiers(), method.toString());
            addIfSeen(names, method.getModifiers(), method.getName());
        }
        for (Field field : KnitBench.class.getDeclaredFields()) {
            addIfSeen(face, field.getModifiers(), field.toString());
        }
        due.same("the face", face.toString(), new TreeSet<>(Set.of(FACE)).toString());
        due.same("public final", KnitBench.class.getModifiers(), Modifier.PUBLIC | Modifier.FINAL);
        for (Class<?> inside : KnitBench.class.getDeclaredClasses()) {
            lookInside(due, inside, names);
        }
        lookAtSource(due);
        due.end();
    }

    private static void addIfSeen(Set<String> seen, int modifiers, String text) {
        if (!Modifier.isPrivate(modifiers)) {
            seen.add(text);
        }
    }

    private static void lookInside(Due due, Class<?> inside, Set<String> names) {
        due.same(inside + " is static", Modifier.isStatic(inside.getModifiers()) ? 1 : 0, 1);
        due.same(inside + " is public", Modifier.isPublic(inside.getModifiers()) ? 1 : 0, 0);
        for (Method method : inside.getDeclaredMethods()) {
            due.same(method + " bears a public name", names.contains(method.getName()) ? 1 : 0, 0);
        }
        for (Field field : inside.getDeclaredFields()) {
            int modifiers = field.getModifiers();
            boolean isLoose = Modifier.isStatic(modifiers) && !Modifier.isFinal(modifiers);
            due.same(field + " is static and not final", isLoose ? 1 : 0, 0);
        }
    }

    private static void lookAtSource(Due due) throws IOException {
        String source = Files.readString(Path.of("src/main/java/KnitBench.java"));
        for (String word : RULED_OUT) {
            due.same("where '" + word + "' stands", source.indexOf(word), -1);
        }
    }
}

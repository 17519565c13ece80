import java.lang.reflect.InvocationTargetException;
import java.lang.reflect.Method;
import java.util.ArrayList;
import java.util.Comparator;
import java.util.List;

/** Runs the tests of a class that name a sentence of the document, each by itself. */
final class Sentences {
    private Sentences() { }

    static List<Method> testsOf(Class<?> tests) {
        List<Method> found = new ArrayList<>();
        for (Method method : tests.getDeclaredMethods()) {
            if (method.isAnnotationPresent(Says.class)) {
                found.add(method);
            }
        }
        found.sort(Comparator.comparing(Method::getName));
        return found;
    }

    /** The whole of a test class's main: ends with exit code 1 if a test fails, or if there is none. */
    static void runAll(Class<?> tests) {
        List<Method> found = testsOf(tests);
        int failed = 0;
        for (Method test : found) {
            failed += holds(test) ? 0 : 1;
        }
        System.out.println(found.size() + " tests of sentences, " + failed + " failed");
        if (found.isEmpty() || failed > 0) {
            System.exit(1);
        }
    }

    private static boolean holds(Method test) {
        Due due = new Due();
        try {
            test.setAccessible(true);
            test.invoke(null, due);
        } catch (InvocationTargetException e) {
            due.fail("threw " + e.getCause());
        } catch (IllegalAccessException e) {
            due.fail("can't be run: " + e);
        }
        if (due.wrongs().isEmpty()) {
            return true;
        }
        Says says = test.getAnnotation(Says.class);
        System.out.println("promise " + says.promise() + ", " + test.getName() + ": \"" + says.words() + "\"");
        for (String wrong : due.wrongs()) {
            System.out.println("    " + wrong);
        }
        return false;
    }
}

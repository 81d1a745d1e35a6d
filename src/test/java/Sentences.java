import java.lang.reflect.InvocationTargetException;
import java.lang.reflect.Method;
import java.util.ArrayList;
import java.util.Comparator;
import java.util.List;

/** Runs the tests of one class, each under the words of the document that it stands for. */
final class Sentences {
    private Sentences() {
    }

    /** Every method of that class with words of the document; each takes a Due. */
    static List<Method> testsOf(Class<?> tests) {
        List<Method> all = new ArrayList<>();
        for (Method test : tests.getDeclaredMethods()) {
            if (test.isAnnotationPresent(Says.class)) {
                all.add(test);
            }
        }
        all.sort(Comparator.comparing(Method::getName));
        return all;
    }

    static void run(Class<?> tests) {
        Due due = new Due();
        String heading = tests.getAnnotation(Says.class).value();
        for (Method test : testsOf(tests)) {
            due.under(heading + ", " + test.getName() + ", \"" + test.getAnnotation(Says.class).value() + "\"");
            runOne(test, due);
        }
        due.end();
    }

    private static void runOne(Method test, Due due) {
        try {
            test.setAccessible(true);
            test.invoke(null, due);
        } catch (InvocationTargetException e) {
            // No call may throw, whatever it is asked.
            e.getCause().printStackTrace(System.out);
            due.is("what was thrown", 1, 0);
        } catch (IllegalAccessException e) {
            throw new IllegalStateException(e);
        }
    }
}

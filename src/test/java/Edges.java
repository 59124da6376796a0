import java.lang.reflect.InvocationTargetException;
import java.lang.reflect.Method;
import java.util.ArrayList;
import java.util.Comparator;
import java.util.List;

/** Runs the tests of a class: its methods that say for which words of the document they are. */
final class Edges {

    private Edges() {
    }

    static void run(Class<?> tests) {
        List<Method> all = of(tests);
        Check.holds(tests.getName() + " has tests", !all.isEmpty());
        for (Method test : all) {
            Check.begin(test.getName());
            run(test);
        }
        Check.begin("");
        Check.end(tests.getName() + ", " + all.size() + " tests");
    }

    static List<Method> of(Class<?> tests) {
        List<Method> all = new ArrayList<>();
        for (Method method : tests.getDeclaredMethods()) {
            if (method.isAnnotationPresent(Edge.class)) {
                all.add(method);
            }
        }
        all.sort(Comparator.comparing(Method::getName));
        return all;
    }

    private static void run(Method test) {
        try {
            test.invoke(null);
        } catch (InvocationTargetException thrown) {
            // A test that ends early must not keep the others from running.
            Check.holds("runs to its end, but threw " + thrown.getCause(), false);
        } catch (IllegalAccessException thrown) {
            Check.holds("can be called", false);
        }
    }
}

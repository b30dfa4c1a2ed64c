import java.lang.reflect.InvocationTargetException;
import java.lang.reflect.Method;
import java.lang.reflect.Modifier;
import java.util.ArrayList;
import java.util.List;
import java.util.Set;
import java.util.TreeSet;

/** Runs tests by their names: static methods promiseNN.., each told by its name where it fails. */
final class Suite {
    private Suite() {
    }

    /** Runs all of a class and looks that each promise from first to last has a test there. */
    static void run(Class<?> tests, Check check, int first, int last) {
        Set<Integer> promises = new TreeSet<>();
        for (Method test : testsOf(tests)) {
            promises.add(Integer.parseInt(test.getName().substring(7, 9)));
            check.about(test.getName());
            int before = check.looked();
            call(test, check);
            check.about(test.getName());
            check.yes("something is looked at", check.looked() > before);
        }
        check.about(tests.getName());
        for (int promise = first; promise <= last; promise++) {
            check.yes("promise " + promise + " has a test", promises.contains(promise));
        }
        check.end(tests.getName());
    }

    private static List<Method> testsOf(Class<?> tests) {
        List<Method> found = new ArrayList<>();
        for (Method method : tests.getDeclaredMethods()) {
            if (Modifier.isStatic(method.getModifiers()) && method.getName().matches("promise[0-9][0-9][A-Z].*")) {
                found.add(method);
            }
        }
        found.sort((a, b) -> a.getName().compareTo(b.getName()));
        return found;
    }

    private static void call(Method test, Check check) {
        try {
            test.invoke(null);
        } catch (InvocationTargetException e) {
            e.getCause().printStackTrace(System.out);
            check.yes("it ends without a throw", false);
        } catch (IllegalAccessException e) {
            throw new IllegalStateException(e);
        }
    }
}

import java.lang.reflect.InvocationTargetException;
import java.lang.reflect.Method;
import java.util.ArrayList;
import java.util.Comparator;
import java.util.List;

/** Runs the edge tests of a class: its methods that say a sentence of the document. */
final class Edges {

    private Edges() {
    }

    static List<Method> of(Class<?> tests) {
        List<Method> all = new ArrayList<>();
        for (Method method : tests.getDeclaredMethods()) {
            if (method.isAnnotationPresent(Says.class)) {
                all.add(method);
            }
        }
        all.sort(Comparator.comparing(Method::getName));
        return all;
    }

    static void run(Class<?> tests, Check check) {
        for (Method test : of(tests)) {
            check.begin(test.getName());
            check.same("ends", end(test), "by itself");
        }
        check.end();
    }

    private static String end(Method test) {
        try {
            test.invoke(null);
            return "by itself";
        } catch (InvocationTargetException e) {
            return "with " + e.getCause();
        } catch (IllegalAccessException e) {
            return "before it began: " + e;
        }
    }
}

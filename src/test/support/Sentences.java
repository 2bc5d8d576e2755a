import java.lang.reflect.InvocationTargetException;
import java.lang.reflect.Method;
import java.util.ArrayList;
import java.util.Comparator;
import java.util.List;

/** Runs the tests of a class that say what they are about, and looks whether each piece of the document has one. */
final class Sentences {
    private Sentences() {
    }

    static void test(Class<?> tests, int fromPromise, int toPromise) throws Exception {
        Document document = new Document();
        List<Method> methods = new ArrayList<>(List.of(tests.getDeclaredMethods()));
        methods.removeIf(method -> !method.isAnnotationPresent(Says.class));
        methods.sort(Comparator.comparing(Method::getName));
        for (Method method : methods) {
            Says says = method.getAnnotation(Says.class);
            Checks.about(says.of() + " \"" + says.value() + "\", " + method.getName());
            if (!document.words(says.of()).contains(says.value())) {
                Checks.fault("the document does not say so");
            }
            runOne(method);
        }
        for (int promise = fromPromise; promise <= toPromise; promise++) {
            for (String clause : document.clauses(promise)) {
                Checks.about(promise + " \"" + clause + "\"");
                if (!hasTest(methods, promise, clause)) {
                    Checks.fault("no test is about it");
                }
            }
        }
        Checks.end(methods.size() + " tests of " + tests.getName() + " hold");
    }

    private static void runOne(Method method) throws IllegalAccessException {
        int before = Checks.made();
        try {
            method.invoke(null);
        } catch (InvocationTargetException e) {
            Checks.fault("threw " + e.getCause());
        }
        if (Checks.made() == before) {
            Checks.fault("the test looks at nothing");
        }
    }

    private static boolean hasTest(List<Method> methods, int promise, String clause) {
        for (Method method : methods) {
            Says says = method.getAnnotation(Says.class);
            if (says.of() == promise && (clause.contains(says.value()) || says.value().contains(clause))) {
                return true;
            }
        }
        return false;
    }
}

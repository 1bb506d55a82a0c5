import java.lang.reflect.InvocationTargetException;
import java.lang.reflect.Method;
import java.util.ArrayList;
import java.util.Comparator;
import java.util.List;

/** Runs the tests of a class that stand for the document's sentences, each by itself. */
final class Edges {
    private Edges() {
    }

    static List<Method> testsOf(Class<?> tests) {
        List<Method> all = new ArrayList<>();
        for (Method m : tests.getDeclaredMethods()) {
            if (m.isAnnotationPresent(Says.class)) {
                m.setAccessible(true);
                all.add(m);
            }
        }
        all.sort(Comparator.comparing(Method::getName));
        return all;
    }

    static void run(Class<?> tests) {
        List<Method> all = testsOf(tests);
        int wrong = 0;
        for (Method test : all) {
            try {
                test.invoke(null);
            } catch (InvocationTargetException e) {
                wrong++;
                System.out.println(tests.getName() + "." + test.getName() + ", \""
                        + String.join("\" .. \"", test.getAnnotation(Says.class).value()) + "\": " + e.getCause());
            } catch (IllegalAccessException e) {
                throw new IllegalStateException(e);
            }
        }
        System.out.println(tests.getName() + ": " + all.size() + " tests of sentences, " + wrong + " wrong");
        if (wrong > 0 || all.isEmpty()) {
            System.exit(1);
        }
    }
}

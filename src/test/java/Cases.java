import java.lang.reflect.InvocationTargetException;
import java.lang.reflect.Method;
import java.util.Arrays;
import java.util.Comparator;

/**
 * Runs every case of a test: its methods whose names begin with the head in the document that they are of (p07_ is
 * promise 7, t2_ is what the terms say under II, h_ is what stands ahead of both).
 */
final class Cases {
    private Cases() {
    }

    /** Fails if a promise from the first to the last has no case. */
    static void run(Class<?> test, Bench bench, int first, int last) throws IllegalAccessException {
        Method[] methods = test.getDeclaredMethods();
        Arrays.sort(methods, Comparator.comparing(Method::getName));
        boolean[] has = new boolean[61];
        int cases = 0;
        for (Method method : methods) {
            String name = method.getName();
            if (!name.matches("(p\\d\\d|t\\d|h)_\\w+")) {
                continue;
            }
            cases++;
            if (name.startsWith("p")) {
                has[Integer.parseInt(name.substring(1, 3))] = true;
            }
            bench.begin(name);
            runOne(method);
        }
        bench.begin(test.getName());
        for (int promise = first; promise <= last; promise++) {
            bench.due("has a case of promise " + promise, has[promise], true);
        }
        System.out.println(cases + " cases");
        bench.end();
    }

    private static void runOne(Method method) throws IllegalAccessException {
        try {
            method.setAccessible(true);
            method.invoke(null);
        } catch (InvocationTargetException thrown) {
            throw new IllegalStateException(method.getName(), thrown.getCause());
        }
    }
}

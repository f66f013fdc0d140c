import java.lang.reflect.InvocationTargetException;
import java.lang.reflect.Method;
import java.lang.reflect.Modifier;
import java.util.Map;
import java.util.TreeMap;

/** Runs tests that stand for one sentence each: the method pNN.. is of promise NN. */
final class Edges {
    static final Check CHECK = new Check();

    private Edges() {
    }

    /** Runs all tests of a class; each promise from the first to the last must have one. */
    static void run(Class<?> tests, int first, int last) throws IllegalAccessException, InvocationTargetException {
        Map<String, Method> named = new TreeMap<>();
        for (Method method : tests.getDeclaredMethods()) {
            if (method.getName().matches("p[0-9]{2}.*") && Modifier.isStatic(method.getModifiers())) {
                named.put(method.getName(), method);
            }
        }
        int[] of = new int[100];
        for (Map.Entry<String, Method> test : named.entrySet()) {
            int before = CHECK.looked();
            CHECK.named(test.getKey());
            test.getValue().setAccessible(true);
            test.getValue().invoke(null);
            CHECK.due("whether it looked at answers", CHECK.looked() > before ? 1 : 0, 1);
            of[Integer.parseInt(test.getKey().substring(1, 3))]++;
        }
        for (int promise = first; promise <= last; promise++) {
            CHECK.promise(promise);
            CHECK.due("whether it has tests", of[promise] > 0 ? 1 : 0, 1);
        }
        System.out.println(tests.getName() + ": " + named.size() + " sentences");
        CHECK.end(tests.getName());
    }
}

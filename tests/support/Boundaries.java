import java.lang.reflect.InvocationTargetException;
import java.lang.reflect.Method;
import java.util.ArrayList;
import java.util.Comparator;
import java.util.List;

/** Runs the tests of boundary cases: every static method that has a Sentence. */
final class Boundaries {
    private Boundaries() {
    }

    static List<Method> testsOf(Class<?>... classes) {
        List<Method> tests = new ArrayList<>();
        for (Class<?> one : classes) {
            for (Method method : one.getDeclaredMethods()) {
                if (method.isAnnotationPresent(Sentence.class)) {
                    tests.add(method);
                }
            }
        }
        tests.sort(Comparator.comparingInt((Method m) -> m.getAnnotation(Sentence.class).promise())
            .thenComparing(Method::getName));
        return tests;
    }

    static void run(Method test) throws IllegalAccessException {
        Sentence sentence = test.getAnnotation(Sentence.class);
        Bench.begin("promise " + sentence.promise() + " <" + sentence.says() + "> " + test.getName() + ": ");
        int before = Bench.answers();
        try {
            test.invoke(null);
        } catch (InvocationTargetException e) {
            Bench.due("threw " + e.getCause(), 1, 0);
        }
        Bench.due("answers that it looked at", Math.min(Bench.answers() - before, 1), 1);
    }
}

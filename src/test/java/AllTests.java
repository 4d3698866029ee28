import java.lang.reflect.InvocationTargetException;
import java.lang.reflect.Method;
import java.util.ArrayList;
import java.util.Comparator;
import java.util.List;

/** Runs each static method of the test classes as a test, and tells of each whether it passed. */
public final class AllTests {
    static final Class<?>[] CLASSES = {
        YardTests.class, CallTests.class, TrunkTests.class, BookingTests.class, TrainTests.class,
        LimitTests.class, ModelTests.class, FaceTests.class, DocumentTests.class,
        YardSentences.class, StandSentences.class, CallSentences.class, TalkSentences.class,
        TrunkSentences.class, BookingSentences.class, TrainSentences.class
    };
    static final int PROMISES = 33;

    public static void main(String[] args) {
        boolean[] tested = new boolean[PROMISES + 1];
        int failed = 0;
        for (Class<?> tests : CLASSES) {
            for (Method test : testsOf(tests)) {
                failed += passes(test) ? 0 : 1;
                markPromise(test.getName(), tested);
            }
        }
        for (int promise = 1; promise <= PROMISES; promise++) {
            if (!tested[promise]) {
                failed++;
                System.out.println("FAILED there is no test of promise " + promise);
            }
        }
        System.exit(failed == 0 ? 0 : 1);
    }

    static List<Method> testsOf(Class<?> tests) {
        List<Method> found = new ArrayList<>();
        for (Method method : tests.getDeclaredMethods()) {
            boolean named = method.getName().startsWith("promise") || method.getName().startsWith("all");
            if (named && method.getParameterCount() == 0) {
                found.add(method);
            }
        }
        found.sort(Comparator.comparing(Method::getName));
        return found;
    }

    private static boolean passes(Method test) {
        String name = test.getDeclaringClass().getSimpleName() + "." + test.getName();
        try {
            test.setAccessible(true);
            test.invoke(null);
            System.out.println("ok " + name);
            return true;
        } catch (InvocationTargetException e) {
            System.out.println("FAILED " + name + ": " + e.getCause());
            e.getCause().printStackTrace(System.out);
        } catch (IllegalAccessException e) {
            System.out.println("FAILED " + name + ": " + e);
        }
        return false;
    }

    private static void markPromise(String name, boolean[] tested) {
        if (name.startsWith("promise")) {
            tested[Integer.parseInt(name.substring(7, 9))] = true;
        }
    }
}

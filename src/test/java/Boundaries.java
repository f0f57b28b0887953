import java.lang.reflect.InvocationTargetException;
import java.lang.reflect.Method;
import java.util.Arrays;
import java.util.Comparator;
import java.util.List;

/** The tests of boundary cases: each is one method that is named after its promise and takes a Check. */
final class Boundaries {
    static final List<Class<?>> CLASSES = List.of(TextBoundariesTest.class, TreatyBoundariesTest.class,
        PartBoundariesTest.class, FactBoundariesTest.class, FlightBoundariesTest.class, WayBoundariesTest.class,
        DealBoundariesTest.class, StageBoundariesTest.class, RefusedCallsTest.class);

    private Boundaries() {
    }

    static List<Method> testsOf(Class<?> tests) {
        return Arrays.stream(tests.getDeclaredMethods()).filter(m -> m.isAnnotationPresent(Says.class))
            .sorted(Comparator.comparing(Method::getName)).toList();
    }

    /** Runs each test of the class; ends with 1 if one fails. */
    static void run(Class<?> tests) {
        int failed = 0;
        List<Method> methods = testsOf(tests);
        for (Method test : methods) {
            if (!holds(tests, test)) {
                failed++;
            }
        }
        System.out.println(methods.size() - failed + " passed, " + failed + " failed");
        if (failed > 0 || methods.isEmpty()) {
            System.exit(1);
        }
    }

    private static boolean holds(Class<?> tests, Method test) {
        String name = tests.getSimpleName() + "." + test.getName();
        if (!test.getName().startsWith("promise" + test.getAnnotation(Says.class).promise() + "_")) {
            System.out.println(name + " is not named after its promise");
            return false;
        }
        Check check = new Check(name);
        try {
            test.setAccessible(true);
            test.invoke(null, check);
        } catch (InvocationTargetException thrown) {
            System.out.println(name + " threw " + thrown.getCause());
            return false;
        } catch (IllegalAccessException | IllegalArgumentException wrong) {
            System.out.println(name + " can't be called: " + wrong);
            return false;
        }
        if (check.calls() == 0) {
            System.out.println(name + " asks nothing");
        }
        return check.calls() > 0 && !check.failed();
    }
}

import java.lang.reflect.InvocationTargetException;
import java.lang.reflect.Method;
import java.lang.reflect.Modifier;
import java.util.Arrays;
import java.util.Comparator;
import java.util.List;
import java.util.Random;

/** Calls of every method with any arguments in drawn states: none throws, each ends. */
public final class NeverThrowsTest {
    private static final int RUNS = 60;
    private static final int CALLS = 500;
    private static final int[] EDGES = {Integer.MIN_VALUE, Integer.MIN_VALUE + 1, -1000, -2, -1, 0, 1, 2, 3, 7, 8, 9, 10, 11, 12,
        15, 16, 20, 23, 24, 30, 31, 63, 64, 99, 100, 101, 199, 200, 255, 256, 700, 701, 999, 1000, 1001, 1300, 99999,
        100000, 1 << 16, 1 << 30, Integer.MAX_VALUE - 1, Integer.MAX_VALUE};

    public static void main(String[] args) throws IllegalAccessException {
        List<Method> methods = Arrays.stream(FastPlane.class.getDeclaredMethods())
            .filter(m -> Modifier.isPublic(m.getModifiers()))
            .sorted(Comparator.comparing(Method::getName)).toList();
        if (methods.size() != 37) {
            System.out.println("NeverThrowsTest: " + methods.size() + " public methods");
            System.exit(1);
        }
        for (int seed = 0; seed < RUNS; seed++) {
            run(new Random(seed), methods);
        }
        System.out.println("NeverThrowsTest: " + RUNS * CALLS + " calls");
    }

    private static void run(Random random, List<Method> methods) throws IllegalAccessException {
        FastPlane plane = new FastPlane();
        Drawn drawn = new Drawn(random);
        for (int i = 0; i < CALLS; i++) {
            Method method = methods.get(random.nextInt(methods.size()));
            if (random.nextInt(20) == 0) {
                text(plane, random, drawn);
            }
            Object[] arguments = new Object[method.getParameterCount()];
            for (int a = 0; a < arguments.length; a++) {
                boolean isInt = method.getParameterTypes()[a] == int.class;
                arguments[a] = isInt ? (Object) any(random) : (Object) random.nextBoolean();
            }
            try {
                method.invoke(plane, arguments);
            } catch (InvocationTargetException thrown) {
                System.out.println("NeverThrowsTest: " + method.getName() + Arrays.toString(arguments) + " threw "
                    + thrown.getCause());
                System.exit(1);
            }
        }
    }

    private static int any(Random random) {
        return random.nextBoolean() ? random.nextInt(12) : EDGES[random.nextInt(EDGES.length)];
    }

    private static void text(FastPlane plane, Random random, Drawn drawn) {
        plane.end(0);
        if (random.nextBoolean()) {
            Check.machine(plane, random.nextInt(4) == 0 ? drawn.broken(drawn.machine()) : drawn.machine());
        } else {
            Check.treaty(plane, random.nextInt(3), random.nextInt(4) == 0 ? drawn.broken(drawn.treaty()) : drawn.treaty());
        }
    }
}

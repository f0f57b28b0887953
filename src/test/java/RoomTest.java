import com.sun.management.ThreadMXBean;
import java.lang.management.ManagementFactory;
import java.lang.reflect.Array;
import java.lang.reflect.Field;
import java.lang.reflect.Modifier;
import java.util.ArrayList;
import java.util.Arrays;
import java.util.Collections;
import java.util.IdentityHashMap;
import java.util.List;
import java.util.Set;

/**
 * The room that all calls of one run share: what an object takes when it is made (counted in objects, and in
 * fields and elements), and that its calls take nothing more.
 */
public final class RoomTest {
    private static final int MOST_OBJECTS = 200;
    private static final int MOST_ELEMENTS = 30_000;
    // What the machine itself may take on the way, as when it measures.
    private static final int MOST_BYTES = 4_000;
    private static final String MACHINE = "part a by 0 long 9 cm grows 9 costs 9; part b by 1 long 8 inch grows 1 costs 8;"
        + "join a b gap 1; moves a b after 2; tank at 1 holds 9; tank at 9 holds 9; row 1 abcdefgh;";
    private static final String TREATY = "share land * 2 + cost; leave when not (month < over); fly when ground < 4;"
        + "keep when others > 0 and price < 9;";
    private static final String BROKEN = "part a by 0 long 9 cm grows 9 costs 9; join a a";

    public static void main(String[] args) {
        Check check = new Check("RoomTest");
        FastPlane plane = new FastPlane();
        long objects = objects(plane);
        long elements = elements(plane);
        check.due("no more than so many objects", objects <= MOST_OBJECTS, true);
        check.due("no more than so many elements", elements <= MOST_ELEMENTS, true);
        // The first run takes what the machine needs to load.
        bytesOf(new FastPlane());
        FastPlane measured = new FastPlane();
        long bytes = bytesOf(measured);
        check.due("calls take " + bytes + " bytes", bytes <= MOST_BYTES, true);
        check.due("as many objects behind the calls", objects(measured), objects);
        check.due("as many elements behind the calls", elements(measured), elements);
        System.out.println("RoomTest: " + objects + " objects, " + elements + " elements, " + bytes + " bytes by calls");
        check.finish();
    }

    private static long bytesOf(FastPlane plane) {
        ThreadMXBean threads = (ThreadMXBean) ManagementFactory.getThreadMXBean();
        int[] machine = numbers(MACHINE);
        int[] treaty = numbers(TREATY);
        int[] broken = numbers(BROKEN);
        long before = threads.getCurrentThreadAllocatedBytes();
        put(plane, machine);
        plane.machine();
        for (int tongue = 0; tongue <= 3; tongue++) {
            put(plane, treaty);
            plane.treaty(tongue);
        }
        for (int n = -1; n < 9; n++) {
            callAll(plane, n);
        }
        put(plane, broken);
        plane.machine();
        put(plane, broken);
        plane.treaty(0);
        return threads.getCurrentThreadAllocatedBytes() - before;
    }

    private static void callAll(FastPlane plane, int n) {
        plane.change(n, n);
        plane.estimate(n, n);
        plane.show(n, n);
        plane.later(n);
        plane.untell(n);
        plane.bounds(0, 99);
        plane.pump(n);
        plane.airline(n, 9);
        plane.stage(n, n);
        plane.grant(n, n);
        for (int what = 0; what < 13; what++) {
            plane.about(what);
        }
        plane.fault(n);
        plane.mm(n, n);
        plane.clash(n);
        plane.breaks(n);
        plane.mend(n);
        plane.unlike(n, 1, n > 0);
        plane.moves(n, n);
        plane.cost(n, n);
        plane.pays(n, n, n);
        plane.over(n, n);
        plane.leave(n, n, n);
        plane.plan(n, n, 0);
        plane.move(n, n, 0, 0);
        plane.soonest(n, 63, n, n, n, 99);
        plane.hold(n, n, n);
        plane.lapse(n, n, n, n);
        plane.shared(n);
        plane.maker(n, n);
        plane.safe(9, 9, n);
        plane.bears(9, n);
        plane.should(9, 9, n);
        if (n == 4) {
            plane.land();
        }
    }

    /** The text as numbers to be fed, with blanks behind it. */
    private static int[] numbers(String text) {
        int[] numbers = new int[(text.length() + 19) / 20 * 5];
        for (int i = 0; i < numbers.length * 4; i++) {
            numbers[i / 4] = numbers[i / 4] << 8 | (i < text.length() ? text.charAt(i) : ' ');
        }
        return numbers;
    }

    private static void put(FastPlane plane, int[] numbers) {
        plane.end(0);
        for (int i = 0; i + 4 < numbers.length; i += 5) {
            plane.feed(numbers[i], numbers[i + 1], numbers[i + 2], numbers[i + 3], numbers[i + 4]);
        }
    }

    private static long objects(FastPlane plane) {
        return reached(plane).size();
    }

    private static long elements(FastPlane plane) {
        long elements = 0;
        for (Object one : reached(plane)) {
            elements += one.getClass().isArray() ? Array.getLength(one) : fields(one).size();
        }
        return elements;
    }

    private static Set<Object> reached(Object first) {
        Set<Object> reached = Collections.newSetFromMap(new IdentityHashMap<>());
        List<Object> open = new ArrayList<>(List.of(first));
        while (!open.isEmpty()) {
            Object one = open.remove(open.size() - 1);
            if (one == null || !reached.add(one) || one.getClass().isArray() && one.getClass().getComponentType().isPrimitive()) {
                continue;
            }
            if (one.getClass().isArray()) {
                open.addAll(Arrays.asList((Object[]) one));
            } else {
                fields(one).stream().filter(f -> !f.getType().isPrimitive()).forEach(f -> open.add(value(f, one)));
            }
        }
        return reached;
    }

    private static List<Field> fields(Object one) {
        List<Field> fields = new ArrayList<>();
        for (Field field : one.getClass().getDeclaredFields()) {
            if (!Modifier.isStatic(field.getModifiers())) {
                fields.add(field);
            }
        }
        return fields;
    }

    private static Object value(Field field, Object one) {
        try {
            field.setAccessible(true);
            return field.get(one);
        } catch (IllegalAccessException closed) {
            throw new IllegalStateException(closed);
        }
    }
}

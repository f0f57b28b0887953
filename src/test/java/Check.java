import java.nio.charset.StandardCharsets;

/** Counts the calls whose answer is not the one that is due. */
final class Check {
    private final String test;
    private int calls;
    private int wrong;

    Check(String test) {
        this.test = test;
    }

    void due(String call, long got, long want) {
        calls++;
        if (got != want) {
            wrong++;
            if (wrong <= 40) {
                System.out.println(test + ": " + call + " answered " + got + ", due is " + want);
            }
        }
    }

    void due(String call, boolean got, boolean want) {
        due(call, got ? 1 : 0, want ? 1 : 0);
    }

    boolean failed() {
        return wrong > 0;
    }

    void finish() {
        System.out.println(test + ": " + calls + " answers, " + wrong + " wrong");
        if (wrong > 0) {
            System.exit(1);
        }
    }

    /** Puts a text behind what is on the tape; its signs are bytes. */
    static void put(FastPlane plane, String text) {
        byte[] bytes = text.getBytes(StandardCharsets.ISO_8859_1);
        int before = plane.about(8);
        for (int from = 0; from < bytes.length; from += 20) {
            int[] five = new int[5];
            for (int i = 0; i < 20; i++) {
                int sign = from + i < bytes.length ? bytes[from + i] & 255 : 32;
                five[i / 4] = five[i / 4] << 8 | sign;
            }
            if (plane.feed(five[0], five[1], five[2], five[3], five[4]) < 0) {
                throw new IllegalStateException("the tape is full");
            }
        }
        plane.end(before + bytes.length);
    }

    static int machine(FastPlane plane, String text) {
        put(plane, text);
        return plane.machine();
    }

    static int treaty(FastPlane plane, int tongue, String text) {
        put(plane, text);
        return plane.treaty(tongue);
    }

    /** A new object with a machine. */
    static FastPlane with(String text) {
        FastPlane plane = new FastPlane();
        if (machine(plane, text) < 0) {
            throw new IllegalStateException("a fault in " + text);
        }
        return plane;
    }
}

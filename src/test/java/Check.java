import java.nio.charset.StandardCharsets;

/** Counts the calls whose answer is not the one that is due. */
final class Check {
    static final int LOW = Integer.MIN_VALUE;
    static final int HIGH = Integer.MAX_VALUE;

    private final String test;
    private int calls;
    private int wrong;

    Check(String test) {
        this.test = test;
    }

    void due(String call, long got, long want) {
        calls++;
        if (got != want) {
            wrong++;
            if (wrong <= 40) {
                System.out.println(test + ": " + call + " answered " + got + ", due is " + want);
            }
        }
    }

    void due(String call, boolean got, boolean want) {
        due(call, got ? 1 : 0, want ? 1 : 0);
    }

    int calls() {
        return calls;
    }

    boolean failed() {
        return wrong > 0;
    }

    void finish() {
        System.out.println(test + ": " + calls + " answers, " + wrong + " wrong");
        if (wrong > 0) {
            System.exit(1);
        }
    }

    /** A machine of so many lines, without a fault. */
    FastPlane takesMachine(String text, int lines) {
        FastPlane x = new FastPlane();
        due("machine(" + text + ")", machine(x, text), lines);
        faultIs(x, text, 0, -1);
        return x;
    }

    /** What is wrong stands behind the first text. */
    void refusesMachine(String before, String text, int fault) {
        refusesMachineAt(before + text, fault, before.length());
    }

    void refusesMachineAt(String text, int fault, int place) {
        FastPlane x = new FastPlane();
        due("machine(" + text + ")", machine(x, text), -1);
        faultIs(x, text, fault, place);
    }

    /** A treaty of so many lines, without a fault. */
    FastPlane takesTreaty(String text, int lines) {
        FastPlane x = new FastPlane();
        due("treaty(" + text + ")", treaty(x, 1, text), lines);
        faultIs(x, text, 0, -1);
        return x;
    }

    void refusesTreaty(String before, String text, int fault) {
        FastPlane x = new FastPlane();
        due("treaty(" + before + text + ")", treaty(x, 1, before + text), -1);
        faultIs(x, before + text, fault, before.length());
    }

    void faultIs(FastPlane x, String text, int fault, int place) {
        due("fault(0) of " + text, x.fault(0), fault);
        due("fault(1) of " + text, x.fault(1), place);
    }

    /** Puts a text behind what is on the tape; its signs are bytes. */
    static void put(FastPlane plane, String text) {
        byte[] bytes = text.getBytes(StandardCharsets.ISO_8859_1);
        int before = plane.about(8);
        for (int from = 0; from < bytes.length; from += 20) {
            int[] five = new int[5];
            for (int i = 0; i < 20; i++) {
                int sign = from + i < bytes.length ? bytes[from + i] & 255 : 32;
                five[i / 4] = five[i / 4] << 8 | sign;
            }
            if (plane.feed(five[0], five[1], five[2], five[3], five[4]) < 0) {
                throw new IllegalStateException("the tape is full");
            }
        }
        plane.end(before + bytes.length);
    }

    static int machine(FastPlane plane, String text) {
        put(plane, text);
        return plane.machine();
    }

    static int treaty(FastPlane plane, int tongue, String text) {
        put(plane, text);
        return plane.treaty(tongue);
    }

    /** A new object with a machine. */
    static FastPlane with(String text) {
        FastPlane plane = new FastPlane();
        if (machine(plane, text) < 0) {
            throw new IllegalStateException("a fault in " + text);
        }
        return plane;
    }

    /** A line that tells a PART of land 0 that does not grow. */
    static String part(String name, int centimetres, int costs) {
        return part(name, 0, centimetres + " cm", 0, costs);
    }

    static String part(String name, int by, String drawn, int grows, int costs) {
        return "part " + name + " by " + by + " long " + drawn + " grows " + grows + " costs " + costs + ";";
    }

    /** PARTS a, b, .. of 1 cm, that cost nothing. */
    static String parts(int many) {
        StringBuilder text = new StringBuilder();
        for (int i = 0; i < many; i++) {
            text.append(part(String.valueOf((char) ('a' + i)), 1, 0));
        }
        return text.toString();
    }
}

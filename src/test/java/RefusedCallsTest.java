import java.util.ArrayList;
import java.util.List;
import java.util.function.Supplier;
import java.util.function.ToIntFunction;

/**
 * What refused calls leave: of two objects made alike one is asked for what can't be, and answers all
 * else as the other does.
 */
public final class RefusedCallsTest {
    private static final int LOW = Check.LOW;
    private static final int HIGH = Check.HIGH;
    private static final String MACHINE = Check.part("a", 0, "100 cm", 10, 40) + Check.part("b", 1, "40 inch", 5, 30)
        + Check.part("c", 0, "101 cm", 0, 20) + "join a b gap 16;join b a gap 15;join a c gap 10;moves a b after 3;"
        + "moves b c after 4;tank at 0 holds 5;tank at 50 holds 5;tank at 90 holds 5;row 0 aabbaaaa;row 1 aabbaaaa;";

    public static void main(String[] args) {
        Boundaries.run(RefusedCallsTest.class);
    }

    /** Something of everything is told; a fault is the latest. */
    private static FastPlane some() {
        FastPlane x = Check.with(MACHINE);
        Check.treaty(x, 0, "share 50 - land * 20 + month; leave when month > 25 and over > 3; fly when ground = 0 or hour > 5;"
            + "keep when shown > 3 or others > 1;");
        Check.treaty(x, 1, "fly when speed < 10 or ground = 0; leave when over < 5;");
        x.later(5);
        x.change(0, 5);
        x.estimate(0, 100);
        x.show(4, 4);
        x.later(2);
        x.change(1, 2);
        x.untell(0);
        x.bounds(30, 60);
        x.bounds(30, 60);
        x.pump(3);
        x.airline(10, 30);
        x.airline(20, 30);
        x.airline(30, 5);
        x.stage(10, 5);
        x.stage(9, 5);
        x.grant(5, 1);
        Check.treaty(x, 2, " share over;");
        Check.put(x, "tank at 7 holds 7;");
        return x;
    }

    /** Something of everything is told, and the TIME is the last. */
    private static FastPlane late() {
        FastPlane x = some();
        for (int i = 0; i < 99; i++) {
            x.later(1000);
        }
        x.later(993);
        return x;
    }

    /** All lists are full, and the tape is nearly so. */
    private static FastPlane full() {
        FastPlane x = Check.with(MACHINE);
        Check.treaty(x, 0, "keep when shown = 7;leave when over < 99;");
        for (int i = 0; i < 200; i++) {
            int ignored = i % 3 == 0 ? x.show(i, 1 + i % 7) : i % 3 == 1 ? x.estimate(i, i) : x.change(i % 2, i);
        }
        for (int i = 0; i < 12; i++) {
            x.bounds(0, 99);
        }
        for (int i = 0; i < 10; i++) {
            x.airline(i, 19 * i);
        }
        for (int i = 0; i < 8; i++) {
            x.stage(3, 5);
        }
        Check.machine(x, "?");
        Check.put(x, " ".repeat(1281));
        return x;
    }

    /** Answers of all methods that only ask; at the end what is on the tape is read. */
    private static List<Integer> answers(FastPlane x) {
        List<Integer> all = new ArrayList<>();
        for (int what = 0; what <= 12; what++) {
            all.add(x.about(what));
        }
        for (int i = 0; i < 3; i++) {
            all.add(x.fault(i));
            all.add(x.mend(i));
            all.add(x.mm(i, 20));
            all.add(x.breaks(i));
            all.add(x.unlike(i, (i + 1) % 3, false));
            all.add(x.unlike(i, (i + 1) % 3, true));
            all.add(x.moves(i, 5));
            all.add(x.moves(i, 7));
            all.add(x.pays(0, i, 7));
            all.add(x.pays(1, i, 5));
            all.add(x.leave(30, i, 7));
            all.add(x.soonest(0, 12, i, 5, 2, 40));
            all.add(x.hold(4, i, 7));
            all.add(x.lapse(i, 20, 0, 7));
            all.add(x.maker(i, 45));
            all.add(x.plan(i + 1, 1, 2));
            all.add(x.move(1, i, 3, 1));
            all.add(x.safe(5 + 2 * i, 7, i));
            all.add(x.should(5 + 2 * i, 7, i));
            all.add(x.over(5 * i, 7));
            all.add(x.cost(5 + i, 5));
        }
        all.add(x.clash(20));
        all.add(x.shared(45));
        all.add(x.bears(19, 19));
        all.add(x.plan(1, 0, 1));
        all.add(x.machine());
        all.add(x.fault(0));
        all.add(x.fault(1));
        all.add(x.about(0));
        all.add(x.about(3));
        return all;
    }

    /** Each of these is refused, and leaves all as it is. */
    private static void refuses(Check c, Supplier<FastPlane> made, int answer, ToIntFunction<FastPlane>[] calls) {
        List<Integer> due = answers(made.get());
        for (int i = 0; i < calls.length; i++) {
            FastPlane x = made.get();
            c.due("refused call " + i, calls[i].applyAsInt(x), answer);
            c.due("all else behind refused call " + i, answers(x).equals(due), true);
        }
    }

    @SafeVarargs
    private static void ofSome(Check c, int answer, ToIntFunction<FastPlane>... calls) {
        refuses(c, RefusedCallsTest::some, answer, calls);
    }

    @SafeVarargs
    private static void ofLate(Check c, int answer, ToIntFunction<FastPlane>... calls) {
        refuses(c, RefusedCallsTest::late, answer, calls);
    }

    @SafeVarargs
    private static void ofFull(Check c, int answer, ToIntFunction<FastPlane>... calls) {
        refuses(c, RefusedCallsTest::full, answer, calls);
    }

    private static int bit(boolean answer) {
        return answer ? 1 : 0;
    }

    @Says(promise = 2, words = "NONE, and nothing comes, if there would be more than 1,300.")
    static void promise2_aRefusedFeedLeavesAll(Check c) {
        ofFull(c, -1, x -> x.feed(0, 0, 0, 0, 0), x -> x.feed(0x3f3f3f3f, 1, 2, 3, 4));
    }

    @Says(promise = 3, words = "NONE, doing nothing, if it has not so many, or n is below 0.")
    static void promise3_aRefusedEndLeavesAll(Check c) {
        ofSome(c, -1, x -> x.end(19), x -> x.end(-1), x -> x.end(LOW), x -> x.end(HIGH), x -> x.end(1300));
        ofFull(c, -1, x -> x.end(1282), x -> x.end(-1), x -> x.end(1301));
    }

    @Says(promise = 5, words = "-2, and the TAPE stays: more than 700 bytes, or no such TONGUE.")
    static void promise5_minusTwoLeavesAll(Check c) {
        ofSome(c, -2, x -> x.treaty(-1), x -> x.treaty(3), x -> x.treaty(LOW), x -> x.treaty(HIGH));
        ofFull(c, -2, x -> x.treaty(0), x -> x.treaty(2), x -> x.treaty(3), x -> x.treaty(-1));
    }

    @Says(promise = 4, words = "NONE: a FAULT (the TAPE is empty then, too; all else stays).")
    static void promise4_aFaultLeavesAllElse(Check c) {
        String[] faults = {"?", "part", Check.part("a", 1, 1) + Check.part("b", 1, 1) + "row 9 a", "tank at 1 holds 1; x",
            "row 0 hhhhhhhh;row 0 hhhhhhhh;"};
        FastPlane alike = some();
        alike.end(0);
        Check.machine(alike, faults[0]);
        List<Integer> due = answers(alike);
        for (String fault : faults) {
            FastPlane x = some();
            x.end(0);
            c.due("machine(" + fault + ")", Check.machine(x, fault), -1);
            c.due("about(8)", x.about(8), 0);
            x.end(0);
            Check.machine(x, faults[0]);
            c.due("all else behind " + fault, answers(x).equals(due), true);
        }
    }

    @Says(promise = 5, words = "NONE: a FAULT (it stays)")
    static void promise5_aFaultLeavesAllElse(Check c) {
        String[] faults = {"?", "share", "share 1; leave when 0; fly when 0; keep when 0; x", "share over;", "keep when 0; fly"};
        for (int tongue = 0; tongue <= 2; tongue++) {
            FastPlane alike = some();
            alike.end(0);
            Check.treaty(alike, tongue, faults[0]);
            List<Integer> due = answers(alike);
            for (String fault : faults) {
                FastPlane x = some();
                x.end(0);
                c.due("treaty(" + fault + ")", Check.treaty(x, tongue, fault), -1);
                c.due("about(8)", x.about(8), 0);
                Check.treaty(x, tongue, faults[0]);
                c.due("all else behind " + fault, answers(x).equals(due), true);
            }
        }
    }

    @Says(promise = 12, words = "NONE, doing nothing, if it can't be, or there are 200.")
    static void promise12_aRefusedChangeLeavesAll(Check c) {
        ofSome(c, -1, x -> x.change(-1, 0), x -> x.change(3, 0), x -> x.change(0, -1), x -> x.change(0, 200),
            x -> x.change(LOW, 5), x -> x.change(5, HIGH));
        ofFull(c, -1, x -> x.change(0, 0), x -> x.change(2, 199), x -> x.change(3, 0));
    }

    @Says(promise = 13, words = "An ESTIMATE: likewise.")
    static void promise13_aRefusedEstimateLeavesAll(Check c) {
        ofSome(c, -1, x -> x.estimate(-1, 1), x -> x.estimate(200, 1), x -> x.estimate(0, -1),
            x -> x.estimate(0, 100000), x -> x.estimate(LOW, HIGH));
        ofFull(c, -1, x -> x.estimate(0, 1), x -> x.estimate(199, 0));
    }

    @Says(promise = 14, words = "SHOWN: likewise (bits 1 .. 255).")
    static void promise14_aRefusedShowLeavesAll(Check c) {
        ofSome(c, -1, x -> x.show(-1, 1), x -> x.show(200, 1), x -> x.show(0, 0), x -> x.show(0, 256),
            x -> x.show(0, -1), x -> x.show(HIGH, LOW));
        ofFull(c, -1, x -> x.show(0, 8), x -> x.show(199, 255));
    }

    @Says(promise = 15, words = "false if it is so already, or there is none such.")
    static void promise15_aRefusedUntellLeavesAll(Check c) {
        ofSome(c, 0, x -> bit(x.untell(0)), x -> bit(x.untell(-1)), x -> bit(x.untell(4)),
            x -> bit(x.untell(LOW)), x -> bit(x.untell(HIGH)));
        ofFull(c, 0, x -> bit(x.untell(200)), x -> bit(x.untell(-1)));
    }

    @Says(promise = 16, words = "NONE, doing nothing, for another number, or if it would be above 100,000.")
    static void promise16_aRefusedLaterLeavesAll(Check c) {
        ofSome(c, -1, x -> x.later(-1), x -> x.later(1001), x -> x.later(LOW), x -> x.later(HIGH));
        ofLate(c, -1, x -> x.later(1), x -> x.later(1000), x -> x.later(-1),
            x -> x.later(HIGH));
    }

    @Says(promise = 22, words = {"NONE, doing nothing, if they can't be (the second below the first), or there are 12."})
    static void promise22_refusedBoundsLeaveAll(Check c) {
        ofSome(c, -1, x -> x.bounds(1, 0), x -> x.bounds(-1, 5), x -> x.bounds(5, 100),
            x -> x.bounds(LOW, HIGH), x -> x.bounds(100, 100));
        ofFull(c, -1, x -> x.bounds(0, 0), x -> x.bounds(0, 99), x -> x.bounds(1, 0));
    }

    @Says(promise = 24, words = "false, doing nothing, if it can't be.")
    static void promise24_aRefusedPumpLeavesAll(Check c) {
        ofSome(c, 0, x -> bit(x.pump(-1)), x -> bit(x.pump(4)), x -> bit(x.pump(LOW)),
            x -> bit(x.pump(HIGH)));
    }

    @Says(promise = 28, words = "NONE, doing nothing, if one can't be, or there are 10.")
    static void promise28_aRefusedAirlineLeavesAll(Check c) {
        ofSome(c, -1, x -> x.airline(-1, 0), x -> x.airline(1000, 0), x -> x.airline(0, -1),
            x -> x.airline(0, 200), x -> x.airline(LOW, HIGH));
        ofFull(c, -1, x -> x.airline(0, 199), x -> x.airline(999, 0));
    }

    @Says(promise = 33, words = "NONE, doing nothing, if one can't be, or there are 8.")
    static void promise33_aRefusedStageLeavesAll(Check c) {
        ofSome(c, -1, x -> x.stage(-1, 0), x -> x.stage(31, 0), x -> x.stage(0, -1), x -> x.stage(0, 11),
            x -> x.stage(LOW, HIGH));
        ofFull(c, -1, x -> x.stage(0, 0), x -> x.stage(30, 10), x -> x.stage(1, 5));
    }

    @Says(promise = 34, words = "false, doing nothing, if one can't be.")
    static void promise34_aRefusedGrantLeavesAll(Check c) {
        ofSome(c, 0, x -> bit(x.grant(-1, 0)), x -> bit(x.grant(10, 0)), x -> bit(x.grant(0, -1)),
            x -> bit(x.grant(0, 5)), x -> bit(x.grant(9, 5)), x -> bit(x.grant(10, 4)), x -> bit(x.grant(LOW, HIGH)));
    }

    @Says(promise = 38, words = "NONE if")
    static void promise38_refusedQuestionsLeaveAll(Check c) {
        ofSome(c, -1, x -> x.fault(2), x -> x.mm(3, 0), x -> x.mm(0, 31), x -> x.clash(31),
            x -> x.breaks(3), x -> x.mend(3), x -> x.unlike(0, 3, true), x -> x.moves(3, 7), x -> x.cost(1000, 7),
            x -> x.pays(2, 0, 7));
        ofSome(c, -1, x -> x.over(200, 7), x -> x.leave(200, 0, 7), x -> x.plan(6, 0, 0),
            x -> x.move(1, 1, 1, 2), x -> x.soonest(0, 64, 0, 0, 0, 9), x -> x.hold(200, 0, 7), x -> x.lapse(3, 0, 0, 7),
            x -> x.shared(101), x -> x.maker(3, 45), x -> x.safe(31, 0, 0));
        ofSome(c, -1, x -> x.bears(31, 0), x -> x.should(0, 31, 0), x -> x.about(13), x -> x.about(-1));
    }

    @Says(promise = 38, words = "Nothing is promised beyond the answers and state changes described above")
    static void promise38_questionsLeaveAll(Check c) {
        List<Supplier<FastPlane>> all = List.of(RefusedCallsTest::some, RefusedCallsTest::late, RefusedCallsTest::full);
        for (Supplier<FastPlane> made : all) {
            FastPlane x = made.get();
            x.shared(7);
            x.maker(1, 99);
            x.plan(5, 5, 5);
            x.move(1, 2, 3, 0);
            x.unlike(1, 0, true);
            x.bears(3, 4);
            x.hold(9, 1, 0);
            x.soonest(5, 60, 1, 3, 8, 80);
            x.mend(0);
            x.over(50, 3);
            c.due("all answers stay", answers(x).equals(answers(made.get())), true);
        }
    }
}

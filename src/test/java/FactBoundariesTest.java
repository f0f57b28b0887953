/** Boundary cases of FACTS, the TIME, and what moves and costs by them: promises 12 to 21. */
public final class FactBoundariesTest {
    private static final int LOW = Check.LOW;
    private static final int HIGH = Check.HIGH;
    private static final int[] NO_MONTHS = {-1, -2, 200, 201, 1000, LOW, HIGH};
    private static final int[] NO_TONGUES = {-1, 3, 4, LOW, HIGH};
    private static final String THREE = Check.part("a", 1, 40) + Check.part("b", 1, "1 cm", 0, 30)
        + Check.part("c", 1, 20);

    public static void main(String[] args) {
        Boundaries.run(FactBoundariesTest.class);
    }

    // ---- promise 12

    @Says(promise = 12, words = {"A CHANGE: the FACT's number; NONE, doing nothing, if it can't be, or there are 200.",
        "CHANGES: a PART is changed in a month (0 .. 199)."})
    static void promise12_eachEndOfPartAndMonth(Check c) {
        c.due("no part at all", new FastPlane().change(0, 0), -1);
        for (int parts : new int[] {1, 3, 12}) {
            FastPlane x = Check.with(Check.parts(parts));
            c.due("change(0, 0)", x.change(0, 0), 0);
            c.due("change(0, 199)", x.change(0, 199), 1);
            c.due("change(last, 199)", x.change(parts - 1, 199), 2);
            for (int part : new int[] {-1, parts, parts + 1, 12, LOW, HIGH}) {
                c.due("change(" + part + ", 5)", x.change(part, 5), -1);
            }
            for (int month : NO_MONTHS) {
                c.due("change(0, " + month + ")", x.change(0, month), -1);
            }
            c.due("nothing done", x.about(4), 3);
            c.due("nothing moved but by those", x.moves(0, 0), 0);
            c.due("the next number", x.change(0, 1), 3);
        }
    }

    @Says(promise = 12, words = {"FACTS, 200 at most", "NONE, doing nothing, if it can't be, or there are 200."})
    static void promise12_theTwoHundredthAndOneMore(Check c) {
        FastPlane x = Check.with(THREE);
        for (int fact = 0; fact < 199; fact++) {
            c.due("fact " + fact, x.estimate(199, 5), fact);
        }
        c.due("the last", x.change(1, 7), 199);
        c.due("it counts", x.moves(1, 0), 7);
        c.due("one more change", x.change(0, 7), -1);
        c.due("one more estimate", x.estimate(0, 7), -1);
        c.due("one more shown", x.show(0, 7), -1);
        c.due("facts", x.about(4), 200);
        c.due("it does not count", x.moves(0, 0), -1);
        c.due("no estimate", x.over(0, 0), 99);
        c.due("no fact 200", x.untell(200), false);
        c.due("fact 199", x.untell(199), true);
        c.due("the untold one is still there", x.change(0, 7), -1);
        c.due("fact 0", x.untell(0), true);
        c.due("the untold one is still there", x.estimate(0, 7), -1);
        c.due("facts", x.about(4), 200);
        Check.machine(x, THREE);
        c.due("in a new machine there are none", x.change(0, 7), 0);
    }

    // ---- promise 13

    @Says(promise = 13, words = {"An ESTIMATE: likewise.", "ESTIMATES: what all is to cost (0 .. 99999), of a month."})
    static void promise13_eachEndOfMonthAndCost(Check c) {
        FastPlane x = Check.with(THREE);
        x.change(0, 0);
        int fact = 1;
        for (int month : new int[] {0, 1, 198, 199}) {
            for (int cost : new int[] {0, 1, 99998, 99999}) {
                c.due("estimate(" + month + ", " + cost + ")", x.estimate(month, cost), fact++);
            }
            for (int cost : new int[] {-1, 100000, 100001, LOW, HIGH}) {
                c.due("estimate(" + month + ", " + cost + ")", x.estimate(month, cost), -1);
            }
        }
        for (int month : NO_MONTHS) {
            c.due("estimate(" + month + ", 4)", x.estimate(month, 4), -1);
        }
        c.due("nothing done", x.about(4), fact);
        c.due("the last that was taken", x.over(199, 0), 0);
        c.due("the next number", x.estimate(5, 400), fact);
        c.due("it counts", x.over(197, 0), 1);
    }

    @Says(promise = 13, words = "An ESTIMATE: likewise.")
    static void promise13_withoutAMachine(Check c) {
        FastPlane x = new FastPlane();
        c.due("the first", x.estimate(0, 1), 0);
        c.due("nothing is spent", x.over(0, 0), 0);
        for (int fact = 1; fact < 200; fact++) {
            c.due("fact " + fact, x.estimate(0, 0), fact);
        }
        c.due("one more", x.estimate(0, 1), -1);
        c.due("an estimate of 0", x.over(0, 0), 99);
    }

    // ---- promise 14

    @Says(promise = 14, words = {"SHOWN: likewise (bits 1 .. 255).", "SHOWN: of a month on something is shown (bits 0 .. 7)."})
    static void promise14_eachEndOfMonthAndBits(Check c) {
        FastPlane x = new FastPlane();
        x.airline(1, 199);
        Check.treaty(x, 0, "keep when shown;");
        for (int bits : new int[] {0, -1, 256, 257, 512, LOW, HIGH}) {
            c.due("show(0, " + bits + ")", x.show(0, bits), -1);
        }
        for (int month : NO_MONTHS) {
            c.due("show(" + month + ", 1)", x.show(month, 1), -1);
        }
        c.due("nothing done", x.about(4), 0);
        c.due("nothing shown", x.hold(198, 0, 0), 0);
        int fact = 0;
        for (int bits : new int[] {1, 2, 128, 254, 255}) {
            c.due("show(199, " + bits + ")", x.show(199, bits), fact++);
        }
        c.due("not shown ahead of it", x.hold(198, 0, 0), 0);
        c.due("show(0, 1)", x.show(0, 1), fact++);
        c.due("shown in the first month", x.hold(0, 0, 0), 1);
        for (; fact < 200; fact++) {
            c.due("fact " + fact, x.show(5, 9), fact);
        }
        c.due("one more", x.show(5, 16), -1);
        Check.treaty(x, 0, "keep when shown = 9;");
        c.due("it is not shown", x.hold(5, 0, 0), 1);
    }

    @Says(promise = 14, words = "bits 0 .. 7")
    static void promise14_eachOfEightBits(Check c) {
        FastPlane x = new FastPlane();
        x.airline(1, 199);
        int shown = 0;
        for (int bit = 0; bit <= 7; bit++) {
            c.due("bit " + bit, x.show(9 + bit, 1 << bit), bit);
            shown |= 1 << bit;
            Check.treaty(x, 0, "keep when shown = " + shown + ";");
            c.due("on from month " + (9 + bit), x.hold(9 + bit, 0, 0), 1);
            c.due("and later", x.hold(198, 0, 0), 1);
            c.due("not before", x.hold(8 + bit, 0, 0), 0);
        }
        c.due("shown", shown, 255);
    }

    // ---- promise 15

    @Says(promise = 15, words = "A FACT is UNTOLD: true; false if it is so already, or there is none such.")
    static void promise15_eachEndAndTwice(Check c) {
        FastPlane x = Check.with(THREE);
        for (int fact : new int[] {-1, 0, 1, 199, 200, LOW, HIGH}) {
            c.due("untell(" + fact + ") of none", x.untell(fact), false);
        }
        x.change(0, 5);
        x.estimate(0, 9);
        x.show(0, 1);
        for (int fact : new int[] {-1, 3, 4, 199, 200, LOW, HIGH}) {
            c.due("untell(" + fact + ") of three", x.untell(fact), false);
        }
        for (int fact = 2; fact >= 0; fact--) {
            c.due("untell(" + fact + ")", x.untell(fact), true);
            c.due("untell(" + fact + ") again", x.untell(fact), false);
        }
        x.later(1);
        c.due("untell(0) later", x.untell(0), false);
        c.due("they are there", x.about(4), 3);
    }

    @Says(promise = 15, words = {"UNTOLD at a later one or the same", "false if it is so already"})
    static void promise15_onceUntoldItStaysUntoldOfThatTime(Check c) {
        FastPlane x = Check.with(THREE);
        x.later(3);
        x.change(0, 5);
        x.later(4);
        c.due("untold at 7", x.untell(0), true);
        x.later(4);
        c.due("not again at 11", x.untell(0), false);
        int[] due = {-1, -1, -1, 5, 5, 5, 5, -1, -1, -1, -1, -1, -1};
        for (int k = 0; k < due.length; k++) {
            c.due("as known at " + k, x.moves(0, k), due[k]);
        }
    }

    // ---- promise 16

    @Says(promise = 16, words = {"So much later (0 .. 1000): the TIME; NONE, doing nothing, for another number",
        "TOLD at a TIME (0 at first, goes on)"})
    static void promise16_fromNoughtToThousand(Check c) {
        FastPlane x = new FastPlane();
        c.due("at first", x.about(7), 0);
        c.due("later(0)", x.later(0), 0);
        for (int by : new int[] {-1, 1001, 1002, 100000, LOW, HIGH}) {
            c.due("later(" + by + ")", x.later(by), -1);
            c.due("the time", x.about(7), 0);
        }
        c.due("later(1)", x.later(1), 1);
        c.due("later(999)", x.later(999), 1000);
        c.due("later(1000)", x.later(1000), 2000);
        c.due("later(1001)", x.later(1001), -1);
        c.due("the time", x.about(7), 2000);
    }

    @Says(promise = 16, words = "NONE, doing nothing, for another number, or if it would be above 100,000.")
    static void promise16_until100000(Check c) {
        FastPlane x = Check.with(THREE);
        for (int i = 1; i <= 99; i++) {
            c.due("later", x.later(1000), 1000 * i);
        }
        c.due("99001", x.later(1), 99001);
        c.due("above by 1", x.later(1000), -1);
        c.due("the time", x.about(7), 99001);
        c.due("just 100000", x.later(999), 100000);
        for (int by : new int[] {1, 2, 1000, 1001, -1, HIGH, LOW}) {
            c.due("later(" + by + ")", x.later(by), -1);
        }
        c.due("later(0)", x.later(0), 100000);
        c.due("facts are told still", x.change(0, 5), 0);
        c.due("known at 100000", x.moves(0, 100000), 5);
        c.due("not at 99999", x.moves(0, 99999), -1);
    }

    // ---- promise 17

    @Says(promise = 17, words = {"The month in which a PART MOVES as known at k; NONE if it does not, or there is none such.",
        "AS KNOWN at k those count that were TOLD at k or before, not UNTOLD at k or before."})
    static void promise17_toldAndUntoldAtKAndBeside(Check c) {
        FastPlane x = Check.with(THREE);
        x.later(10);
        x.change(0, 50);
        x.later(10);
        x.change(0, 40);
        x.later(10);
        x.untell(1);
        x.later(10);
        x.untell(0);
        int[] ks = {LOW, -1, 0, 9, 10, 19, 20, 29, 30, 39, 40, 41, 1000, 100000, 100001, HIGH};
        int[] due = {-1, -1, -1, -1, 50, 50, 40, 40, 50, 50, -1, -1, -1, -1, -1, -1};
        for (int i = 0; i < ks.length; i++) {
            c.due("as known at " + ks[i], x.moves(0, ks[i]), due[i]);
        }
        x.change(1, 0);
        x.change(1, 1);
        x.untell(2);
        c.due("told and untold at once", x.moves(1, 40), 1);
        c.due("later, too", x.moves(1, HIGH), 1);
        c.due("never before", x.moves(1, 39), -1);
    }

    @Says(promise = 17, words = "NONE if it does not, or there is none such.")
    static void promise17_noSuchPart(Check c) {
        c.due("no part at all", new FastPlane().moves(0, 0), -1);
        for (int parts : new int[] {1, 12}) {
            FastPlane x = Check.with(Check.parts(parts));
            c.due("does not", x.moves(parts - 1, 0), -1);
            x.change(parts - 1, 9);
            c.due("the last", x.moves(parts - 1, 0), 9);
            for (int part : new int[] {-1, parts, 12, 13, LOW, HIGH}) {
                c.due("moves(" + part + ", 0)", x.moves(part, 0), -1);
            }
        }
    }

    @Says(promise = 17, words = {"A PART MOVES in the least month of: its CHANGES, and for each MOVES from a PART that moves,"
        + " that month and after.", "(The first PART of MOVES moves the second.)", "after 0 .. 24 months"})
    static void promise17_theLeastMonth(Check c) {
        FastPlane x = Check.with(THREE + "moves a b after 0; moves b c after 24; moves a c after 23; moves c a after 0;");
        c.due("nothing moves", x.moves(0, 0), -1);
        x.change(1, 100);
        c.due("by its change", x.moves(1, 0), 100);
        c.due("by b and 24", x.moves(2, 0), 124);
        c.due("by c and 0", x.moves(0, 0), 124);
        x.change(0, 101);
        c.due("b is sooner by itself", x.moves(1, 0), 100);
        c.due("c alike by both", x.moves(2, 0), 124);
        x.change(0, 100);
        c.due("c is sooner by a", x.moves(2, 0), 123);
        x.change(2, 122);
        c.due("sooner by itself", x.moves(2, 0), 122);
        x.change(2, 0);
        c.due("in month 0", x.moves(2, 0), 0);
        c.due("and so a", x.moves(0, 0), 0);
        c.due("and so b", x.moves(1, 0), 0);
    }

    @Says(promise = 17, words = "for each MOVES from a PART that moves, that month and after")
    static void promise17_throughAllTwelve(Check c) {
        for (boolean turned : new boolean[] {false, true}) {
            StringBuilder text = new StringBuilder(Check.parts(12));
            for (int i = 0; i < 11; i++) {
                int from = turned ? 10 - i : i;
                text.append("moves ").append((char) ('a' + from)).append(' ').append((char) ('b' + from))
                    .append(" after 24;");
            }
            FastPlane x = Check.with(text.toString());
            x.change(0, 199);
            for (int part = 0; part < 12; part++) {
                c.due("part " + part, x.moves(part, 0), 199 + 24 * part);
            }
            x.change(11, 199);
            c.due("none is moved by the second", x.moves(10, 0), 199 + 240);
            c.due("the last by itself", x.moves(11, 0), 199);
        }
    }

    @Says(promise = 17, words = {"for each MOVES from a PART that moves", "16 MOVES"})
    static void promise17_theSixteenthMoves(Check c) {
        FastPlane x = Check.with(Check.parts(3) + "moves b a after 1;".repeat(15) + "moves a c after 2;");
        x.change(0, 7);
        c.due("by the last", x.moves(2, 0), 9);
        c.due("not by the others", x.moves(1, 0), -1);
        x.change(1, 5);
        c.due("by both", x.moves(2, 0), 8);
    }

    // ---- promise 18

    @Says(promise = 18, words = {"COSTS of a month; NONE if there is no such month (0 .. 999).",
        "COSTS of a month: of all PARTS that MOVE in it."})
    static void promise18_eachEndOfMonth(Check c) {
        FastPlane x = Check.with(THREE + "moves a b after 24; moves b c after 24;");
        for (int month : new int[] {-1, 1000, 1001, LOW, HIGH}) {
            c.due("cost(" + month + ")", x.cost(month, 0), -1);
        }
        for (int month : new int[] {0, 1, 998, 999}) {
            c.due("cost(" + month + ")", x.cost(month, 0), 0);
        }
        x.change(0, 0);
        int[] costs = {40, 0, 0, 30, 0, 0, 20, 0};
        int[] months = {0, 1, 23, 24, 25, 47, 48, 49};
        for (int i = 0; i < months.length; i++) {
            c.due("cost(" + months[i] + ")", x.cost(months[i], 0), costs[i]);
        }
        c.due("before it was told", x.cost(0, -1), 0);
        c.due("at any later k", x.cost(0, HIGH), 40);
    }

    @Says(promise = 18, words = "COSTS of a month: of all PARTS that MOVE in it.")
    static void promise18_allTwelveInOneMonth(Check c) {
        StringBuilder text = new StringBuilder();
        for (int i = 0; i < 12; i++) {
            text.append(Check.part(String.valueOf((char) ('a' + i)), 1, 999));
        }
        FastPlane x = Check.with(text.toString());
        for (int part = 0; part < 12; part++) {
            x.change(part, 199);
            x.change(part, 199);
            c.due("parts up to " + part, x.cost(199, 0), 999 * (part + 1));
        }
        c.due("the month before", x.cost(198, 0), 0);
        c.due("the month behind", x.cost(200, 0), 0);
        x.change(4, 198);
        c.due("one is sooner", x.cost(199, 0), 999 * 11);
        c.due("one is sooner", x.cost(198, 0), 999);
        FastPlane far = Check.with(text + "moves a b after 24;moves b c after 24;"
            + "moves c d after 24;moves d e after 24;moves e f after 24;moves f g after 24;moves g h after 24;"
            + "moves h i after 24;moves i j after 24;moves j k after 24;moves k l after 24;");
        far.change(0, 199);
        c.due("the farthest month", far.cost(199 + 264, 0), 999);
        c.due("behind it", far.cost(199 + 265, 0), 0);
    }

    // ---- promise 19

    /** What LAND 0 pays of one PART that costs so much. */
    private static int share(String e, int costs) {
        FastPlane x = Check.with(Check.part("a", 1, costs));
        x.change(0, 0);
        Check.treaty(x, 0, "share " + e + ";");
        int first = x.pays(0, 0, 0);
        return first + x.pays(1, 0, 0) == costs ? first : -1;
    }

    @Says(promise = 19, words = {"What a LAND pays for all by a TONGUE; NONE if one is none.", "(by land 0 or 1"})
    static void promise19_noSuchLandOrTongue(Check c) {
        FastPlane x = Check.with(THREE);
        x.change(0, 0);
        for (int land = -1; land <= 2; land++) {
            for (int tongue = -1; tongue <= 3; tongue++) {
                boolean both = land >= 0 && land <= 1 && tongue >= 0 && tongue <= 2;
                c.due("pays(" + land + ", " + tongue + ")", x.pays(land, tongue, 0), both ? 20 : -1);
            }
        }
        for (int none : NO_TONGUES) {
            c.due("pays(0, " + none + ")", x.pays(0, none, 0), -1);
            c.due("pays(" + (none == 3 ? 2 : none) + ", 0)", x.pays(none == 3 ? 2 : none, 0, 0), -1);
        }
        c.due("nothing moves yet", x.pays(0, 0, -1), 0);
        c.due("nothing at all", new FastPlane().pays(1, 2, HIGH), 0);
    }

    @Says(promise = 19, words = "LAND 0 pays of each PART's costs share of a hundred (cut; below 0 is 0, above 100 is 100;")
    static void promise19_shareBelowNoughtAndAboveAHundred(Check c) {
        c.due("0 - 1", share("0 - 1", 999), 0);
        c.due("0", share("0", 999), 0);
        c.due("1", share("1", 999), 9);
        c.due("99", share("99", 999), 989);
        c.due("100", share("100", 999), 999);
        c.due("101", share("101", 999), 999);
        c.due("9999", share("9999", 999), 999);
        c.due("the least int", share("9999 * 9999 * 21 + 9999 * 4790 + 8416 + 1", 999), 0);
        c.due("the greatest int", share("9999 * 9999 * 21 + 9999 * 4790 + 8416", 999), 999);
        c.due("0 - 9999", share("0 - 9999", 999), 0);
    }

    @Says(promise = 19, words = {"share of a hundred (cut", "LAND 1 the rest."})
    static void promise19_shareIsCut(Check c) {
        c.due("99 of 1", share("99", 1), 0);
        c.due("100 of 1", share("100", 1), 1);
        c.due("50 of 1", share("50", 1), 0);
        c.due("50 of 3", share("50", 3), 1);
        c.due("1 of 99", share("1", 99), 0);
        c.due("1 of 100", share("1", 100), 1);
        c.due("33 of 100", share("33", 100), 33);
        c.due("67 of 3", share("67", 3), 2);
        c.due("66 of 3", share("66", 3), 1);
        c.due("all of nothing", share("100", 0), 0);
        FastPlane x = Check.with(Check.part("a", 1, 1) + Check.part("b", 1, 1) + Check.part("c", 1, 1));
        for (int part = 0; part < 3; part++) {
            x.change(part, part);
        }
        c.due("cut for each part by itself", x.pays(0, 0, 0), 0);
        c.due("and so the rest", x.pays(1, 0, 0), 3);
    }

    @Says(promise = 19, words = "land: by whom, cost: its costs, month: in which it MOVES")
    static void promise19_eachEndOfWhatShareAsksFor(Check c) {
        String ends = Check.part("a", 0, "1 cm", 0, 999) + Check.part("b", 1, "1 cm", 0, 0)
            + Check.part("c", 1, "1 cm", 0, 100) + "moves a b after 24;";
        String[] asks = {"(land = 0) * 100", "(land = 1) * 100", "(cost = 999) * 100", "(cost = 100) * 100",
            "(month = 199) * 100", "(month = 0) * 100", "(month > 199) * 100", "land * 7 + 1"};
        int[] first = {999, 100, 999, 100, 999, 100, 0, 9 + 8};
        for (int i = 0; i < asks.length; i++) {
            FastPlane x = Check.with(ends);
            x.change(0, 199);
            x.change(2, 0);
            Check.treaty(x, 2, "share " + asks[i] + ";");
            c.due("share " + asks[i], x.pays(0, 2, 0), first[i]);
            c.due("the rest of " + asks[i], x.pays(1, 2, 0), 1099 - first[i]);
        }
        FastPlane far = Check.with(Check.part("a", 1, 0) + Check.part("b", 1, 100) + "moves a b after 24;");
        far.change(0, 199);
        Check.treaty(far, 0, "share (month = 223) * 100;");
        c.due("a month behind 199", far.pays(0, 0, 0), 100);
    }

    @Says(promise = 19, words = "What a LAND pays for all by a TONGUE")
    static void promise19_allTwelve(Check c) {
        StringBuilder text = new StringBuilder();
        for (int i = 0; i < 12; i++) {
            text.append(Check.part(String.valueOf((char) ('a' + i)), 1, 999));
        }
        FastPlane x = Check.with(text.toString());
        for (int parts = 1; parts <= 12; parts++) {
            x.change(parts - 1, 199);
            c.due("land 0 for " + parts, x.pays(0, 2, 0), 499 * parts);
            c.due("land 1 for " + parts, x.pays(1, 2, 0), 500 * parts);
        }
        Check.treaty(x, 2, "share 100;");
        c.due("land 0 for all", x.pays(0, 2, 0), 11988);
        c.due("land 1 for nothing", x.pays(1, 2, 0), 0);
    }

    @Says(promise = 19, words = {"What a LAND pays for all by a TONGUE", "A PART MOVES"})
    static void promise19_onlyWhatMovesIsPaid(Check c) {
        FastPlane x = Check.with(THREE + "moves a b after 3;");
        c.due("nothing", x.pays(0, 0, 0), 0);
        c.due("nothing", x.pays(1, 0, 0), 0);
        x.change(0, 5);
        c.due("a and b", x.pays(0, 0, 0), 20 + 15);
        x.later(1);
        x.change(2, 5);
        x.untell(0);
        c.due("only c", x.pays(0, 0, 1), 10);
        c.due("a and b as known before", x.pays(1, 0, 0), 20 + 15);
    }

    // ---- promise 20

    /** OVER in month 5, of which one PART that costs so much moves, by an ESTIMATE. */
    private static int over(int costs, int estimate) {
        FastPlane x = Check.with(Check.part("a", 1, costs));
        x.change(0, 5);
        x.estimate(5, estimate);
        return x.over(5, 0);
    }

    @Says(promise = 20, words = {"OVER of a month (0 .. 199); NONE if there is none such."})
    static void promise20_eachEndOfMonth(Check c) {
        FastPlane x = Check.with(THREE);
        x.estimate(0, 100);
        x.change(0, 0);
        for (int month : NO_MONTHS) {
            c.due("over(" + month + ")", x.over(month, 0), -1);
        }
        for (int month : new int[] {0, 1, 198, 199}) {
            c.due("over(" + month + ")", x.over(month, 0), 4);
            c.due("over(" + month + ") before", x.over(month, -1), 99);
        }
    }

    @Says(promise = 20, words = {"COSTS up to it (it, too) * 10 / the ESTIMATE", "cut; 99 if above, or if there is no"
        + " ESTIMATE, or it is 0."})
    static void promise20_cutAnd99(Check c) {
        c.due("9 of 100", over(9, 100), 0);
        c.due("10 of 100", over(10, 100), 1);
        c.due("19 of 100", over(19, 100), 1);
        c.due("98 of 10", over(98, 10), 98);
        c.due("99 of 10", over(99, 10), 99);
        c.due("100 of 10", over(100, 10), 99);
        c.due("999 of 100", over(999, 100), 99);
        c.due("999 of 101", over(999, 101), 98);
        c.due("999 of 1", over(999, 1), 99);
        c.due("999 of 99999", over(999, 99999), 0);
        c.due("0 of 1", over(0, 1), 0);
        c.due("0 of 0", over(0, 0), 99);
        c.due("1 of 0", over(1, 0), 99);
        c.due("no estimate", new FastPlane().over(0, 0), 99);
        StringBuilder text = new StringBuilder();
        for (int i = 0; i < 12; i++) {
            text.append(Check.part(String.valueOf((char) ('a' + i)), 1, 999));
        }
        FastPlane most = Check.with(text.toString());
        for (int part = 0; part < 12; part++) {
            most.change(part, 0);
        }
        most.estimate(0, 99999);
        c.due("11988 of 99999", most.over(0, 0), 1);
        most.estimate(0, 1199);
        c.due("11988 of 1199", most.over(0, 0), 99);
        most.estimate(0, 1211);
        c.due("11988 of 1211", most.over(0, 0), 98);
    }

    @Says(promise = 20, words = "COSTS up to it (it, too)")
    static void promise20_costsUpToItAndNoFarther(Check c) {
        FastPlane x = Check.with(THREE + "moves a b after 24;");
        x.estimate(0, 100);
        x.change(2, 0);
        x.change(0, 175);
        int[] months = {0, 1, 174, 175, 176, 198, 199};
        int[] due = {2, 2, 2, 6, 6, 6, 9};
        for (int i = 0; i < months.length; i++) {
            c.due("over(" + months[i] + ")", x.over(months[i], 0), due[i]);
        }
        x.change(0, 174);
        c.due("sooner by a month", x.over(198, 0), 9);
        c.due("sooner by a month", x.over(197, 0), 6);
    }

    @Says(promise = 20, words = "the ESTIMATE of the greatest month not behind it (of like ones the last TOLD)")
    static void promise20_whichEstimate(Check c) {
        FastPlane x = Check.with(Check.part("a", 1, 100));
        x.change(0, 0);
        x.estimate(10, 100);
        c.due("behind it", x.over(9, 0), 99);
        c.due("of it", x.over(10, 0), 10);
        c.due("ahead of it", x.over(11, 0), 10);
        x.estimate(11, 50);
        c.due("still of 10", x.over(10, 0), 10);
        c.due("of 11", x.over(11, 0), 20);
        c.due("of 11 to the end", x.over(199, 0), 20);
        x.estimate(10, 25);
        c.due("the last told of 10", x.over(10, 0), 40);
        c.due("11 is greater", x.over(11, 0), 20);
        x.estimate(0, 20);
        c.due("of 0", x.over(0, 0), 50);
        c.due("of 0", x.over(9, 0), 50);
        c.due("10 is greater", x.over(10, 0), 40);
        x.later(1);
        x.untell(2);
        c.due("without that of 11", x.over(11, 1), 40);
        x.untell(3);
        c.due("the one told before", x.over(11, 1), 10);
        c.due("as known before", x.over(11, 0), 20);
        x.estimate(10, 0);
        c.due("the last told is 0", x.over(199, 1), 99);
        x.estimate(199, 1000);
        c.due("of 199", x.over(199, 1), 1);
        c.due("not of 198", x.over(198, 1), 99);
    }

    // ---- promise 21

    @Says(promise = 21, words = {"1 if one may LEAVE in a month by a TONGUE, else 0; NONE if one is none.",
        "LEAVE: whether leave holds in a month by a TONGUE."})
    static void promise21_noSuchMonthOrTongue(Check c) {
        FastPlane x = new FastPlane();
        Check.treaty(x, 1, "leave when 1;");
        for (int tongue = 0; tongue <= 2; tongue++) {
            for (int month : NO_MONTHS) {
                c.due("leave(" + month + ", " + tongue + ")", x.leave(month, tongue, 0), -1);
            }
            for (int month : new int[] {0, 1, 198, 199}) {
                c.due("leave(" + month + ", " + tongue + ")", x.leave(month, tongue, 0), tongue == 1 ? 1 : 0);
            }
        }
        for (int tongue : NO_TONGUES) {
            c.due("leave(0, " + tongue + ")", x.leave(0, tongue, 0), -1);
            c.due("leave(199, " + tongue + ")", x.leave(199, tongue, HIGH), -1);
            c.due("leave(200, " + tongue + ")", x.leave(200, tongue, 0), -1);
        }
    }

    @Says(promise = 21, words = {"whether leave holds in a month", "leave for month, over"})
    static void promise21_eachEndOfMonthAndOver(Check c) {
        FastPlane x = Check.with(Check.part("a", 1, 99));
        for (int month : new int[] {0, 1, 198, 199}) {
            Check.treaty(x, 0, "leave when month = " + month + ";");
            c.due("in it", x.leave(month, 0, 0), 1);
            c.due("beside it", x.leave(month == 0 ? 1 : month - 1, 0, 0), 0);
        }
        Check.treaty(x, 0, "leave when over = 99;");
        Check.treaty(x, 1, "leave when over = 98;");
        Check.treaty(x, 2, "leave when over = 0;");
        c.due("no estimate is 99", x.leave(0, 0, 0), 1);
        x.estimate(0, 10);
        c.due("nothing spent is 0", x.leave(0, 2, 0), 1);
        x.change(0, 3);
        c.due("before it moves", x.leave(2, 2, 0), 1);
        c.due("just 99", x.leave(3, 0, 0), 1);
        c.due("not 98", x.leave(3, 1, 0), 0);
        c.due("as known before", x.leave(3, 0, -1), 1);
        x.later(1);
        x.estimate(0, 1);
        c.due("above 99 is 99", x.leave(3, 0, 1), 1);
        x.estimate(0, 0);
        c.due("an estimate of 0 is 99", x.leave(0, 0, 1), 1);
        x.estimate(0, 101);
        c.due("9", x.leave(3, 0, 1), 0);
        c.due("as known at 0", x.leave(3, 0, 0), 1);
    }

    @Says(promise = 21, words = {"1 if one may LEAVE", "of what is not 0"})
    static void promise21_whateverIsNotNought(Check c) {
        FastPlane x = new FastPlane();
        String[] holds = {"1", "9999", "0 - 1", "month + 1", "over", "over - 100"};
        for (String e : holds) {
            Check.treaty(x, 0, "leave when " + e + ";");
            c.due("leave when " + e, x.leave(0, 0, 0), 1);
        }
        for (String e : new String[] {"0", "month", "over - 99", "not over"}) {
            Check.treaty(x, 0, "leave when " + e + ";");
            c.due("leave when " + e, x.leave(0, 0, 0), 0);
        }
    }
}

import java.util.Arrays;

/** Boundary cases of AIRLINES, their options, and WORKS: promises 28 to 32. */
public final class DealBoundariesTest {
    private static final int LOW = Check.LOW;
    private static final int HIGH = Check.HIGH;
    private static final int[] NO_MONTHS = {-1, -2, 200, 201, 1000, LOW, HIGH};
    private static final int[] NO_TONGUES = {-1, 3, 4, LOW, HIGH};

    public static void main(String[] args) {
        Boundaries.run(DealBoundariesTest.class);
    }

    // ---- promise 28

    @Says(promise = 28, words = {"An AIRLINE: a number; NONE, doing nothing, if one can't be", "a price (0 .. 999), the month"
        + " (0 .. 199) till which"})
    static void promise28_eachEndOfPriceAndMonth(Check c) {
        FastPlane x = new FastPlane();
        int[][] can = {{0, 0}, {0, 199}, {999, 0}, {999, 199}, {1, 1}, {998, 198}};
        int number = 0;
        for (int[] one : can) {
            for (int price : new int[] {-1, 1000, 1001, LOW, HIGH}) {
                c.due("airline(" + price + ", " + one[1] + ")", x.airline(price, one[1]), -1);
            }
            for (int month : NO_MONTHS) {
                c.due("airline(" + one[0] + ", " + month + ")", x.airline(one[0], month), -1);
            }
            c.due("nothing done", x.about(6), number);
            c.due("airline(" + one[0] + ", " + one[1] + ")", x.airline(one[0], one[1]), number++);
        }
        c.due("both can't be", x.airline(-1, -1), -1);
        c.due("in month 0", x.hold(0, 0, 0), 2 + 8 + 16 + 32);
        c.due("in month 1", x.hold(1, 0, 0), 2 + 8 + 32);
        c.due("in month 197", x.hold(197, 0, 0), 2 + 8 + 32);
        c.due("in month 198", x.hold(198, 0, 0), 2 + 8);
        c.due("in month 199", x.hold(199, 0, 0), 0);
    }

    @Says(promise = 28, words = {"AIRLINES, 10 at most", "NONE, doing nothing, if one can't be, or there are 10."})
    static void promise28_theTenthAndOneMore(Check c) {
        FastPlane x = new FastPlane();
        for (int airline = 0; airline < 10; airline++) {
            c.due("airline " + airline, x.airline(airline, 100 + airline), airline);
            c.due("about(6)", x.about(6), airline + 1);
        }
        c.due("one more", x.airline(5, 199), -1);
        c.due("can't be, either", x.airline(1000, 200), -1);
        c.due("about(6)", x.about(6), 10);
        c.due("all hold", x.hold(99, 0, 0), 1023);
        c.due("the last holds", x.hold(108, 0, 0), 512);
        c.due("none holds", x.hold(109, 0, 0), 0);
        c.due("no airline 10", x.lapse(10, 0, 0, 0), -1);
        Check.machine(x, "");
        c.due("they stay", x.airline(5, 5), -1);
    }

    // ---- promise 29

    @Says(promise = 29, words = "Those who hold behind ROUNDS of a month by a TONGUE, as bits; NONE if one is none.")
    static void promise29_noSuchMonthOrTongue(Check c) {
        FastPlane none = new FastPlane();
        FastPlane x = new FastPlane();
        x.airline(0, 199);
        for (int month : NO_MONTHS) {
            c.due("hold(" + month + ", 0)", x.hold(month, 0, 0), -1);
            c.due("hold(" + month + ", 2) of none", none.hold(month, 2, 0), -1);
        }
        for (int tongue : NO_TONGUES) {
            c.due("hold(0, " + tongue + ")", x.hold(0, tongue, 0), -1);
            c.due("hold(199, " + tongue + ") of none", none.hold(199, tongue, 0), -1);
            c.due("hold(200, " + tongue + ")", x.hold(200, tongue, 0), -1);
        }
        for (int tongue = 0; tongue <= 2; tongue++) {
            c.due("hold(0, " + tongue + ")", x.hold(0, tongue, 0), 1);
            c.due("hold(198, " + tongue + ")", x.hold(198, tongue, LOW), 1);
            c.due("hold(199, " + tongue + ")", x.hold(199, tongue, HIGH), 0);
            c.due("no airlines", none.hold(0, tongue, 0), 0);
            c.due("no airlines", none.hold(199, tongue, 0), 0);
        }
    }

    @Says(promise = 29, words = "the month (0 .. 199) till which (not in it) the option runs")
    static void promise29_tillWhichNotInIt(Check c) {
        for (int till : new int[] {0, 1, 2, 100, 198, 199}) {
            FastPlane x = new FastPlane();
            x.airline(5, till);
            for (int month : new int[] {0, till - 1, till, till + 1, 199}) {
                if (month >= 0 && month <= 199) {
                    c.due("till " + till + " in " + month, x.hold(month, 0, 0), month < till ? 1 : 0);
                    c.due("till " + till + " in " + month, x.lapse(0, month, 0, 0), month < till ? 0 : -1);
                }
            }
        }
    }

    private static void keep(FastPlane x, String e) {
        Check.treaty(x, 0, "keep when " + e + ";");
    }

    @Says(promise = 29, words = {"in a ROUND all whose keep does not hold lapse at once", "keep for airline, shown, others,"
        + " price, month"})
    static void promise29_eachEndOfWhatKeepAsksFor(Check c) {
        FastPlane x = new FastPlane();
        for (int airline = 0; airline < 10; airline++) {
            x.airline(111 * airline, 199);
        }
        for (int airline : new int[] {0, 1, 8, 9}) {
            keep(x, "airline = " + airline);
            c.due("airline = " + airline, x.hold(0, 0, 0), 1 << airline);
            keep(x, "price = " + 111 * airline);
            c.due("price = " + 111 * airline, x.hold(0, 0, 0), 1 << airline);
            keep(x, "price < " + 111 * airline);
            c.due("price < " + 111 * airline, x.hold(0, 0, 0), (1 << airline) - 1);
        }
        for (int month : new int[] {0, 1, 197, 198}) {
            keep(x, "month = " + month);
            c.due("month = " + month, x.hold(month, 0, 0), 1023);
            c.due("beside " + month, x.hold(month == 0 ? 1 : month - 1, 0, 0), 0);
        }
        keep(x, "others = 9");
        c.due("nine others", x.hold(0, 0, 0), 1023);
        keep(x, "others < 9");
        c.due("not eight", x.hold(0, 0, 0), 0);
        keep(x, "0 - airline");
        c.due("all that is not 0", x.hold(0, 0, 0), 1022);
        keep(x, "shown");
        c.due("nothing is shown", x.hold(0, 0, 0), 0);
        keep(x, "shown = 0");
        c.due("nothing is shown", x.hold(0, 0, 0), 1023);
    }

    @Says(promise = 29, words = "shown: bits of SHOWN of that month or ahead that count")
    static void promise29_shownOfThatMonthOrAhead(Check c) {
        FastPlane x = new FastPlane();
        x.airline(0, 199);
        x.show(10, 1);
        x.later(5);
        x.show(12, 2);
        x.show(10, 4);
        x.later(5);
        x.untell(0);
        // In months 9 to 12, as known at 0, 4, 5, 9, 10.
        int[] ks = {-1, 0, 4, 5, 9, 10, HIGH};
        int[][] shown = {{0, 0, 0, 0, 0, 0, 0}, {0, 1, 1, 5, 5, 4, 4}, {0, 1, 1, 5, 5, 4, 4}, {0, 1, 1, 7, 7, 6, 6}};
        for (int month = 9; month <= 12; month++) {
            for (int i = 0; i < ks.length; i++) {
                keep(x, "shown = " + shown[month - 9][i]);
                c.due("shown in " + month + " as known at " + ks[i], x.hold(month, 0, ks[i]), 1);
            }
        }
        keep(x, "shown = 6");
        c.due("long behind it", x.hold(198, 0, 10), 1);
        x.show(12, 255);
        keep(x, "shown = 255");
        c.due("all", x.hold(12, 0, 10), 1);
        c.due("not yet", x.hold(11, 0, 10), 0);
        FastPlane none = new FastPlane();
        none.airline(0, 199);
        none.estimate(0, 255);
        keep(none, "shown = 0");
        c.due("an estimate is not shown", none.hold(0, 0, 0), 1);
    }

    @Says(promise = 29, words = {"lapse at once (others: how many others hold", "until none does."})
    static void promise29_atOnceUntilNoneDoes(Check c) {
        FastPlane x = new FastPlane();
        x.airline(10, 9);
        x.airline(20, 9);
        x.airline(30, 5);
        keep(x, "others < 2");
        c.due("three at once", x.hold(0, 0, 0), 0);
        c.due("two, when one's option is out", x.hold(5, 0, 0), 3);
        keep(x, "others > 1");
        c.due("each has two others", x.hold(0, 0, 0), 7);
        c.due("each has one other", x.hold(5, 0, 0), 0);
        keep(x, "others > 1 and price < 30");
        c.due("one, and then the two", x.hold(0, 0, 0), 0);
        keep(x, "others > 1 and price < 30 or price = 20");
        c.due("one, then another, and one stays", x.hold(0, 0, 0), 2);
        keep(x, "price < 30 or others < 2");
        c.due("one lapses that would have held later", x.hold(0, 0, 0), 3);
        keep(x, "0");
        c.due("nobody", x.hold(0, 0, 0), 0);
        FastPlane one = new FastPlane();
        one.airline(1, 1);
        keep(one, "others = 0");
        c.due("one has no others", one.hold(0, 0, 0), 1);
        keep(one, "others");
        c.due("one has no others", one.hold(0, 0, 0), 0);
    }

    // ---- promise 30

    @Says(promise = 30, words = {"The ROUND (1 ..) in which an AIRLINE lapses; 0 if it does not, NONE if it did not hold at"
        + " first, or one is none."})
    static void promise30_noSuchAirlineMonthOrTongue(Check c) {
        FastPlane x = new FastPlane();
        for (int airline : new int[] {-1, 0, 9, 10, LOW, HIGH}) {
            c.due("lapse(" + airline + ") of none", x.lapse(airline, 0, 0, 0), -1);
        }
        for (int count = 1; count <= 10; count++) {
            x.airline(0, 199);
            c.due("the first", x.lapse(0, 198, 2, 0), 0);
            c.due("the last", x.lapse(count - 1, 0, 0, 0), 0);
            for (int airline : new int[] {-1, count, count + 1, 10, LOW, HIGH}) {
                c.due("lapse(" + airline + ") of " + count, x.lapse(airline, 0, 0, 0), -1);
            }
        }
        for (int month : NO_MONTHS) {
            c.due("lapse(0, " + month + ", 0)", x.lapse(0, month, 0, 0), -1);
        }
        for (int tongue : NO_TONGUES) {
            c.due("lapse(0, 0, " + tongue + ")", x.lapse(0, 0, tongue, 0), -1);
        }
        keep(x, "0");
        c.due("in the first round", x.lapse(9, 0, 0, 0), 1);
        c.due("not by another tongue", x.lapse(9, 0, 1, 0), 0);
        c.due("did not hold at first", x.lapse(9, 199, 0, 0), -1);
    }

    @Says(promise = 30, words = {"The ROUND (1 ..) in which an AIRLINE lapses", "AIRLINES, 10 at most"})
    static void promise30_asManyRoundsAsAirlines(Check c) {
        for (int count = 1; count <= 10; count++) {
            FastPlane x = new FastPlane();
            for (int airline = 0; airline < count; airline++) {
                x.airline(airline, 9);
            }
            keep(x, "others > airline");
            for (int airline = 0; airline < count; airline++) {
                c.due(airline + " of " + count, x.lapse(airline, 0, 0, 0), count - airline);
            }
            c.due("nobody is left", x.hold(0, 0, 0), 0);
            keep(x, "others > airline or airline = 0");
            for (int airline = 1; airline < count; airline++) {
                c.due(airline + " of " + count, x.lapse(airline, 0, 0, 0), count - airline);
            }
            c.due("the first stays", x.lapse(0, 0, 0, 0), 0);
            c.due("the first stays", x.hold(0, 0, 0), 1);
        }
    }

    @Says(promise = 30, words = {"at first those hold whose option runs", "NONE if it did not hold at first"})
    static void promise30_thoseWhoDidNotHoldAtFirst(Check c) {
        FastPlane x = new FastPlane();
        x.airline(1, 3);
        x.airline(1, 4);
        x.airline(1, 5);
        keep(x, "others > 0");
        int[][] rounds = {{0, 0, 0}, {-1, 0, 0}, {-1, -1, 1}, {-1, -1, -1}};
        for (int month = 2; month <= 5; month++) {
            for (int airline = 0; airline < 3; airline++) {
                c.due(airline + " in " + month, x.lapse(airline, month, 0, 0), rounds[month - 2][airline]);
            }
        }
        keep(x, "shown");
        x.later(2);
        x.show(4, 8);
        c.due("lapsed as known before", x.lapse(2, 4, 0, 1), 1);
        c.due("not as known then", x.lapse(2, 4, 0, 2), 0);
        c.due("in an earlier month", x.lapse(2, 3, 0, 2), 1);
    }

    // ---- promises 31 and 32

    private static String works(int... costs) {
        StringBuilder text = new StringBuilder();
        for (int part = 0; part < costs.length; part++) {
            text.append(Check.part(String.valueOf((char) ('a' + part)), 1, costs[part]));
        }
        return text.toString();
    }

    /** Asks for all of it; the makers are told as digits. */
    private static void divided(Check c, int least, String makers, int twice, int... costs) {
        FastPlane x = Check.with(works(costs));
        String said = "least " + least + " of " + Arrays.toString(costs);
        c.due("shared: " + said, x.shared(least), twice);
        for (int part = 0; part < costs.length; part++) {
            c.due("maker of " + part + ": " + said, x.maker(part, least), makers.charAt(part) - '0');
        }
        c.due("no more: " + said, x.maker(costs.length, least), -1);
    }

    @Says(promise = 31, words = {"SHARED: what both make; NONE if it can't be.", "SHARED for least (0 .. 100)"})
    static void promise31_eachEndOfLeast(Check c) {
        for (String text : new String[] {"", works(7), works(1, 2, 3)}) {
            FastPlane x = Check.with(text);
            for (int least : new int[] {-1, -2, 101, 102, LOW, HIGH}) {
                c.due("shared(" + least + ")", x.shared(least), -1);
                c.due("maker(0, " + least + ")", x.maker(0, least), -1);
            }
            c.due("shared(0)", x.shared(0), 0);
            c.due("shared(1)", x.shared(1), text.equals(works(7)) ? 7 : 0);
            c.due("shared(99)", x.shared(99), text.isEmpty() ? 0 : text.equals(works(7)) ? 7 : 6);
            c.due("shared(100)", x.shared(100), text.isEmpty() ? 0 : text.equals(works(7)) ? 7 : 6);
        }
    }

    @Says(promise = 31, words = "each land's SHARE is at least that of a hundred of all costs (SHARE * 100 at least least"
        + " * all)")
    static void promise31_justEnoughAndOneTooLittle(Check c) {
        // Of 100 the lesser SHARE is 30; for one more both have to make the greater PART.
        divided(c, 29, "01", 0, 30, 70);
        divided(c, 30, "01", 0, 30, 70);
        divided(c, 31, "02", 70, 30, 70);
        divided(c, 30, "01", 0, 70, 30);
        divided(c, 31, "20", 70, 70, 30);
        // Of 3 it is 1: 100 is at least 33 * 3, but not 34 * 3; 200 is at least 66 * 3, but not 67 * 3.
        divided(c, 33, "01", 0, 1, 2);
        divided(c, 34, "02", 2, 1, 2);
        divided(c, 66, "02", 2, 1, 2);
        divided(c, 67, "22", 3, 1, 2);
        // Just half and half, and one more of a hundred.
        divided(c, 50, "01", 0, 50, 50);
        divided(c, 51, "22", 100, 50, 50);
        divided(c, 50, "0011", 0, 1, 4, 2, 3);
        divided(c, 51, "0120", 2, 1, 4, 2, 3);
    }

    @Says(promise = 31, words = {"the least cost of what both make", "A land's SHARE is what its PARTS cost (those made by"
        + " both count for both)."})
    static void promise31_theLeastTwice(Check c) {
        divided(c, 60, "021", 4, 5, 4, 6);
        divided(c, 100, "222", 15, 5, 4, 6);
        divided(c, 99, "222", 15, 5, 4, 6);
        divided(c, 0, "000", 0, 5, 4, 6);
        divided(c, 1, "001", 0, 5, 4, 6);
        divided(c, 100, "2", 999, 999);
        divided(c, 50, "2", 1, 1);
        divided(c, 1, "2", 1, 1);
        divided(c, 0, "0", 0, 1);
        divided(c, 100, "000", 0, 0, 0, 0);
        divided(c, 100, "020", 9, 0, 9, 0);
    }

    @Says(promise = 31, words = "each PART is made by land 0, by land 1, or by both")
    static void promise31_allTwelveOfTheGreatestCosts(Check c) {
        int[] costs = new int[12];
        Arrays.fill(costs, 999);
        divided(c, 0, "000000000000", 0, costs);
        divided(c, 1, "000000000001", 0, costs);
        divided(c, 50, "000000111111", 0, costs);
        divided(c, 51, "000001111122", 1998, costs);
        divided(c, 100, "222222222222", 11988, costs);
        divided(c, 99, "222222222222", 11988, costs);
        divided(c, 91, "012222222222", 9990, costs);
        divided(c, 92, "222222222222", 11988, costs);
    }

    @Says(promise = 31, words = "each PART is made by land 0, by land 1, or by both")
    static void promise31_byWhomTheMachineTellsAPartMakesNoDifference(Check c) {
        for (int by = 0; by < 4; by++) {
            FastPlane x = Check.with(Check.part("a", by & 1, "1 cm", 0, 30) + Check.part("b", by >> 1, "1 cm", 0, 70));
            c.due("shared(30) by " + by, x.shared(30), 0);
            c.due("a by " + by, x.maker(0, 30), 0);
            c.due("b by " + by, x.maker(1, 30), 1);
            c.due("b of 31 by " + by, x.maker(1, 31), 2);
            c.due("b of 0 by " + by, x.maker(1, 0), 0);
        }
    }

    @Says(promise = 32, words = {"Who makes a PART then: 0, 1, 2 both; NONE likewise, or if there is none such."})
    static void promise32_noSuchPart(Check c) {
        c.due("no part at all", new FastPlane().maker(0, 0), -1);
        for (int parts : new int[] {1, 2, 11, 12}) {
            FastPlane x = Check.with(Check.parts(parts));
            for (int part : new int[] {-1, parts, 12, 13, LOW, HIGH}) {
                c.due("maker(" + part + ") of " + parts, x.maker(part, 50), -1);
                c.due("maker(" + part + ") of " + parts, x.maker(part, 101), -1);
            }
            for (int least : new int[] {-1, 101, LOW, HIGH}) {
                c.due("least " + least, x.maker(0, least), -1);
            }
            for (int least : new int[] {0, 1, 99, 100}) {
                c.due("least " + least, x.maker(parts - 1, least), 0);
            }
        }
    }

    @Says(promise = 32, words = "of like ones the first PART by PART (0, 1, both)")
    static void promise32_theFirstPartByPart(Check c) {
        divided(c, 10, "00001", 0, 1, 1, 1, 1, 1);
        divided(c, 20, "00001", 0, 1, 1, 1, 1, 1);
        divided(c, 21, "00011", 0, 1, 1, 1, 1, 1);
        divided(c, 40, "00011", 0, 1, 1, 1, 1, 1);
        divided(c, 41, "00112", 1, 1, 1, 1, 1, 1);
        divided(c, 60, "00112", 1, 1, 1, 1, 1, 1);
        divided(c, 61, "01222", 3, 1, 1, 1, 1, 1);
        divided(c, 40, "0010", 0, 3, 2, 5, 0);
        divided(c, 50, "0101", 0, 3, 3, 2, 2);
        divided(c, 30, "0001", 0, 3, 1, 2, 4);
    }

    @Says(promise = 32, words = "Who makes a PART then")
    static void promise32_ofAnotherLeastAndAnotherMachine(Check c) {
        FastPlane x = Check.with(works(30, 70));
        c.due("31", x.maker(1, 31), 2);
        c.due("30", x.maker(1, 30), 1);
        c.due("0", x.maker(1, 0), 0);
        c.due("31 again", x.maker(1, 31), 2);
        c.due("shared(31)", x.shared(31), 70);
        c.due("shared(30)", x.shared(30), 0);
        Check.machine(x, works(1, 1, 1, 1));
        c.due("another machine", x.maker(0, 30), 0);
        c.due("another machine", x.maker(3, 30), 1);
        c.due("another machine", x.shared(30), 0);
        Check.machine(x, "part ?");
        c.due("a fault", x.maker(2, 30), 1);
        Check.machine(x, "");
        c.due("no parts", x.maker(0, 30), -1);
        c.due("no parts", x.shared(30), 0);
    }
}

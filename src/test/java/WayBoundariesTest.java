/** Boundary cases of WAYS over the map: promise 27. */
public final class WayBoundariesTest {
    private static final int LOW = Check.LOW;
    private static final int HIGH = Check.HIGH;
    // From the first CELL to the last there is only one way over ground a, of 35 CELLS to enter.
    private static final String WINDING = "row 0 aaaaaaaa; row 1 hhhhhhha; row 2 aaaaaaaa; row 3 ahhhhhhh; row 4 aaaaaaaa;"
        + " row 5 hhhhhhha; row 6 aaaaaaaa; row 7 ahhhhhhh;";

    public static void main(String[] args) {
        Boundaries.run(WayBoundariesTest.class);
    }

    @Says(promise = 27, words = {"SOONEST from a CELL to another one by a TONGUE in an hour, grounds barred (as bits, 0 .. 255),"
        + " with so much fuel (0 .. 99)", "NONE if there is none, or one can't be."})
    static void promise27_eachEndOfWhatCanBe(Check c) {
        FastPlane x = new FastPlane();
        int[] least = {0, 0, 0, 0, 0, 0};
        int[] most = {63, 63, 2, 23, 255, 99};
        for (int which = 0; which < 6; which++) {
            for (int number : new int[] {least[which], least[which] + 1, most[which] - 1, most[which]}) {
                int[] of = {9, 9, 1, 5, 7, 9};
                of[which] = number;
                boolean same = of[0] == of[1];
                int got = x.soonest(of[0], of[1], of[2], of[3], of[4], of[5]);
                c.due(which + " is " + number, same ? got == 0 : got == -1 || got > 0, true);
            }
            for (int number : new int[] {least[which] - 1, most[which] + 1, most[which] + 2, LOW, HIGH, -100, 1000}) {
                int[] of = {9, 9, 1, 5, 7, 9};
                of[which] = number;
                c.due(which + " is " + number, x.soonest(of[0], of[1], of[2], of[3], of[4], of[5]), -1);
            }
        }
        c.due("the first and the last cell", x.soonest(0, 63, 0, 0, 0, 99), 1442);
        c.due("the last and the first cell", x.soonest(63, 0, 2, 23, 0, 99), 1442);
        c.due("both can't be", x.soonest(64, 64, 0, 0, 0, 99), -1);
        c.due("both can't be", x.soonest(-1, -1, 0, 0, 0, 99), -1);
    }

    @Says(promise = 27, words = {"SOONEST from a CELL to another one", "with so much fuel (0 .. 99): 100 * minutes + fuel"
        + " burnt"})
    static void promise27_whereOneIs(Check c) {
        FastPlane x = Check.with("row 0 abcdefgh;");
        Check.treaty(x, 0, "fly when 0;");
        for (int cell = 0; cell < 64; cell++) {
            c.due("no way to go at " + cell, x.soonest(cell, cell, 0, 0, 255, 0), 0);
            c.due("no way to go with fuel at " + cell, x.soonest(cell, cell, 1, 0, 0, 99), 0);
        }
    }

    @Says(promise = 27, words = "A WAY goes from CELL to CELL (beside one another by a side).")
    static void promise27_besideBySides(Check c) {
        FastPlane x = new FastPlane();
        for (int from = 0; from < 64; from += 9) {
            for (int to = 0; to < 64; to++) {
                int steps = Math.abs(from % 8 - to % 8) + Math.abs(from / 8 - to / 8);
                c.due("from " + from + " to " + to, x.soonest(from, to, 0, 0, 0, 99), 103 * steps);
                if (from == 27 || from == 63) {
                    c.due("slowly from " + from + " to " + to, x.soonest(from, to, 0, 0, 255, 99), 302 * steps);
                }
            }
            x = new FastPlane();
        }
        c.due("not over the edge", x.soonest(7, 8, 0, 0, 0, 23), 1023);
        c.due("not over the edge", x.soonest(8, 7, 0, 0, 0, 24), 824);
        c.due("not over the map", x.soonest(0, 56, 0, 0, 0, 99), 721);
        c.due("not over the map", x.soonest(0, 7, 0, 0, 0, 99), 721);
        c.due("not by corners", x.soonest(0, 9, 0, 0, 0, 99), 206);
    }

    @Says(promise = 27, words = "One enters a CELL fast in 1 minute and 3 of fuel")
    static void promise27_justEnoughFuel(Check c) {
        FastPlane x = new FastPlane();
        int[] one = {-1, -1, 302, 103, 103, 103};
        int[] two = {-1, -1, -1, -1, 604, 405, 206, 206};
        int[] three = {-1, -1, -1, -1, -1, -1, 906, 707, 508, 309, 309};
        for (int fuel = 0; fuel < one.length; fuel++) {
            c.due("one cell with " + fuel, x.soonest(0, 1, 0, 0, 0, fuel), one[fuel]);
        }
        for (int fuel = 0; fuel < two.length; fuel++) {
            c.due("two cells with " + fuel, x.soonest(0, 2, 0, 0, 0, fuel), two[fuel]);
        }
        for (int fuel = 0; fuel < three.length; fuel++) {
            c.due("three cells with " + fuel, x.soonest(0, 3, 0, 0, 0, fuel), three[fuel]);
        }
    }

    @Says(promise = 27, words = {"SOONEST: the fewest minutes with so much fuel", "with so much fuel (0 .. 99)"})
    static void promise27_allTheFuel(Check c) {
        FastPlane x = Check.with(WINDING);
        Check.treaty(x, 0, "fly when ground = 0;");
        // 35 CELLS: 29 fast and 6 slow burn 99, 28 and 7 burn 98; all slow burn 70.
        c.due("99", x.soonest(0, 56, 0, 0, 0, 99), 4799);
        c.due("98", x.soonest(0, 56, 0, 0, 0, 98), 4998);
        c.due("97", x.soonest(0, 56, 0, 0, 0, 97), 5197);
        c.due("71", x.soonest(0, 56, 0, 0, 0, 71), 10371);
        c.due("70", x.soonest(0, 56, 0, 0, 0, 70), 10570);
        c.due("69", x.soonest(0, 56, 0, 0, 0, 69), -1);
        c.due("100", x.soonest(0, 56, 0, 0, 0, 100), -1);
        c.due("one cell less: 31 fast", x.soonest(0, 48, 0, 0, 0, 99), 31 * 100 + 300 * 3 + 99);
        c.due("and back", x.soonest(56, 0, 0, 0, 0, 99), 4799);
        c.due("barred: all slow", x.soonest(0, 56, 0, 0, 1, 99), 10570);
        c.due("where fly does not hold", x.soonest(0, 8, 0, 0, 0, 99), -1);
    }

    @Says(promise = 27, words = "of like ones the least fuel.")
    static void promise27_ofLikeOnesTheLeastFuel(Check c) {
        FastPlane map = Check.with("row 0 abaaaaaa; row 1 aaaaaaaa;");
        // Round b there are four fast, over it one slow and one fast: four minutes each, but 12 and 5.
        c.due("four minutes with 5", map.soonest(0, 2, 0, 0, 2, 99), 405);
        c.due("four minutes with 5", map.soonest(0, 2, 0, 0, 2, 5), 405);
        c.due("slower with 4", map.soonest(0, 2, 0, 0, 2, 4), 604);
        c.due("none with 3", map.soonest(0, 2, 0, 0, 2, 3), -1);
        Check.treaty(map, 0, "fly when ground = 0;");
        c.due("round with 12", map.soonest(0, 2, 0, 0, 0, 99), 412);
        c.due("round with 12", map.soonest(0, 2, 0, 0, 0, 12), 412);
        c.due("round with 11", map.soonest(0, 2, 0, 0, 0, 11), 611);
        c.due("round with 8", map.soonest(0, 2, 0, 0, 0, 8), 1208);
        c.due("not with 7", map.soonest(0, 2, 0, 0, 0, 7), -1);
    }

    @Says(promise = 27, words = {"if the ground is not barred and fly holds there (by a TONGUE, the hour told, speed 20)",
        "or slowly in 3 minutes and 2 of fuel (speed 9: if fly holds for that, barred or not)"})
    static void promise27_speeds20And9(Check c) {
        FastPlane x = new FastPlane();
        for (int speed = 0; speed <= 30; speed++) {
            Check.treaty(x, 1, "fly when speed = " + speed + ";");
            c.due("speed = " + speed, x.soonest(0, 1, 1, 0, 0, 99), speed == 20 ? 103 : speed == 9 ? 302 : -1);
            c.due("speed = " + speed + ", barred", x.soonest(0, 1, 1, 0, 1, 99), speed == 9 ? 302 : -1);
        }
        Check.treaty(x, 1, "fly when speed > 9;");
        c.due("fast alone", x.soonest(0, 1, 1, 0, 0, 99), 103);
        c.due("not with 2", x.soonest(0, 1, 1, 0, 0, 2), -1);
        Check.treaty(x, 1, "fly when speed < 20;");
        c.due("slowly alone", x.soonest(0, 1, 1, 0, 0, 99), 302);
        Check.treaty(x, 1, "fly when not (speed = 20 or speed = 9);");
        c.due("not at all", x.soonest(0, 1, 1, 0, 0, 99), -1);
        c.due("by another tongue", x.soonest(0, 1, 0, 0, 0, 99), 103);
    }

    @Says(promise = 27, words = "(by a TONGUE, the hour told, speed 20)")
    static void promise27_eachHourOfEachTongue(Check c) {
        for (int told : new int[] {0, 1, 12, 22, 23}) {
            FastPlane x = new FastPlane();
            Check.treaty(x, 0, "fly when hour = " + told + ";");
            Check.treaty(x, 1, "fly when hour > " + told + ";");
            Check.treaty(x, 2, "fly when hour < " + told + " or speed < 10;");
            for (int hour = 0; hour <= 23; hour++) {
                c.due("hour = " + told + " in " + hour, x.soonest(0, 1, 0, hour, 0, 99), hour == told ? 103 : -1);
                c.due("hour > " + told + " in " + hour, x.soonest(0, 1, 1, hour, 0, 99), hour > told ? 103 : -1);
                c.due("hour < " + told + " in " + hour, x.soonest(0, 1, 2, hour, 0, 99), hour < told ? 103 : 302);
            }
            c.due("the hour does not go on", x.soonest(0, 63, 0, told, 0, 99), 1442);
        }
    }

    @Says(promise = 27, words = {"grounds barred (as bits, 0 .. 255)", "if the ground is not barred"})
    static void promise27_eachGroundBarred(Check c) {
        FastPlane x = Check.with("row 1 abcdefgh;");
        for (int ground = 0; ground < 8; ground++) {
            int above = ground;
            int of = 8 + ground;
            c.due("only " + ground + " is barred", x.soonest(above, of, 0, 0, 1 << ground, 99), 302);
            c.due("all others are barred", x.soonest(above, of, 0, 0, 255 - (1 << ground), 99), 103);
            c.due("none is barred", x.soonest(above, of, 0, 0, 0, 99), 103);
            c.due("all are barred", x.soonest(above, of, 0, 0, 255, 99), 302);
            c.due("what one leaves does not count", x.soonest(of, above, 0, 0, 254, 99), 103);
            c.due("what one enters does", x.soonest(of, above, 0, 0, 1, 99), 302);
        }
        for (int ground = 0; ground < 8; ground++) {
            FastPlane y = Check.with("row 1 abcdefgh;");
            Check.treaty(y, 0, "fly when ground = " + ground + " or ground = 0;");
            c.due("fly over " + ground, y.soonest(ground, 8 + ground, 0, 0, 0, 99), 103);
            c.due("not over another", y.soonest(6 - ground / 2, 14 - ground / 2, 0, 0, 0, 99),
                6 - ground / 2 == ground ? 103 : -1);
            c.due("off it, though", y.soonest(8 + 6 - ground / 2, 6 - ground / 2, 0, 0, 0, 99), 103);
        }
    }

    @Says(promise = 27, words = {"the grounds of its CELLS (x 0 .. 7; CELL 8 * y + x; all a if not told)",
        "each row 0 .. 7 of the map once"})
    static void promise27_eachCellOfTheMap(Check c) {
        for (int cell = 0; cell < 64; cell++) {
            int y = cell / 8;
            int x = cell % 8;
            FastPlane plane = Check.with("row " + y + " " + "aaaaaaa".substring(0, x) + "h" + "aaaaaaa".substring(x) + ";");
            for (int other : new int[] {0, 7, 56, 63, (cell + 1) % 64, (cell + 63) % 64, (cell + 8) % 64, (cell + 56) % 64,
                cell}) {
                int beside = other % 8 > 0 ? other - 1 : other + 1;
                c.due("h at " + cell + ", into " + other, plane.soonest(beside, other, 0, 0, 128, 99),
                    other == cell ? 302 : 103);
            }
        }
        FastPlane none = new FastPlane();
        for (int cell = 0; cell < 64; cell++) {
            int beside = cell % 8 > 0 ? cell - 1 : cell + 1;
            c.due("ground a at " + cell, none.soonest(beside, cell, 0, 0, 1, 99), 302);
            c.due("no other ground at " + cell, none.soonest(beside, cell, 0, 0, 254, 99), 103);
        }
    }

    @Says(promise = 27, words = "NONE if there is none")
    static void promise27_lockedIn(Check c) {
        FastPlane x = Check.with("row 0 abaaaaaa; row 1 bbaaaaaa;");
        Check.treaty(x, 0, "fly when ground = 0;");
        c.due("out of the corner", x.soonest(0, 2, 0, 0, 0, 99), -1);
        c.due("into the corner", x.soonest(2, 0, 0, 0, 0, 99), -1);
        c.due("where one is", x.soonest(0, 0, 0, 0, 0, 99), 0);
        c.due("out of the wall", x.soonest(1, 0, 0, 0, 0, 99), 103);
        c.due("within the wall", x.soonest(1, 9, 0, 0, 0, 99), -1);
        Check.treaty(x, 0, "fly when ground = 0 or speed = 9;");
        c.due("slowly through the wall", x.soonest(0, 2, 0, 0, 0, 99), 405);
        Check.treaty(x, 0, "fly when ground = 0 or speed = 20;");
        c.due("fast through the wall", x.soonest(0, 2, 0, 0, 0, 99), 206);
        c.due("but not if it is barred", x.soonest(0, 2, 0, 0, 2, 99), -1);
    }
}

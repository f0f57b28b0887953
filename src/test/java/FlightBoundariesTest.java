/** Boundary cases of the FLIGHT and its PLAN: promises 22 to 26. */
public final class FlightBoundariesTest {
    private static final int LOW = Check.LOW;
    private static final int HIGH = Check.HIGH;
    // Means of fuel that is all in the first, and of every other share, are told apart by these.
    private static final int[] PLACES = {0, 9, 90};
    private static final String THREE = "tank at 0 holds 15; tank at 9 holds 15; tank at 90 holds 15;";

    public static void main(String[] args) {
        Boundaries.run(FlightBoundariesTest.class);
    }

    private static FastPlane flight(String tanks, int from, int to) {
        FastPlane x = Check.with(tanks);
        x.bounds(from, to);
        return x;
    }

    // ---- promise 22

    @Says(promise = 22, words = {"Bounds come behind those of the FLIGHT: how many STEPS; NONE, doing nothing, if they can't"
        + " be (the second below the first)", "bounds from .. to (0 .. 99) each"})
    static void promise22_eachEndOfBounds(Check c) {
        int[][] canBe = {{0, 0}, {0, 1}, {0, 99}, {1, 99}, {98, 99}, {99, 99}, {50, 50}, {50, 51}};
        int[][] canNot = {{1, 0}, {51, 50}, {99, 98}, {99, 0}, {-1, 0}, {-1, -1}, {-1, 99}, {0, 100}, {100, 100}, {99, 100},
            {LOW, 0}, {0, HIGH}, {LOW, HIGH}, {HIGH, LOW}, {HIGH, HIGH}, {0, -1}};
        for (int[] can : canBe) {
            FastPlane x = new FastPlane();
            c.due("bounds(" + can[0] + ", " + can[1] + ")", x.bounds(can[0], can[1]), 1);
            for (int[] not : canNot) {
                c.due("bounds(" + not[0] + ", " + not[1] + ")", x.bounds(not[0], not[1]), -1);
                c.due("steps", x.about(5), 1);
            }
            c.due("one more", x.bounds(can[0], can[1]), 2);
        }
    }

    @Says(promise = 22, words = {"or there are 12.", "A FLIGHT is 1 .. 12 STEPS"})
    static void promise22_theTwelfthStepAndOneMore(Check c) {
        FastPlane x = Check.with("tank at 7 holds 15;");
        for (int step = 1; step <= 12; step++) {
            c.due("step " + step, x.bounds(7, 7), step);
            c.due("a plan of it", x.plan(step, 0, 0), 0);
            c.due("too little fuel", x.plan(step - 1, 0, 0), -1);
        }
        c.due("one more", x.bounds(0, 0), -1);
        c.due("can't be, either", x.bounds(1, 0), -1);
        c.due("steps", x.about(5), 12);
        c.due("the plan is as it was", x.plan(12, 0, 0), 0);
        c.due("the plan is as it was", x.plan(15, 0, 0), 0);
        c.due("the last step", x.move(12, 0, 0, 11), 0);
        c.due("no thirteenth", x.move(12, 0, 0, 12), -1);
    }

    @Says(promise = 22, words = "Bounds come behind those of the FLIGHT")
    static void promise22_behindThoseThatAre(Check c) {
        FastPlane x = Check.with("tank at 10 holds 9; tank at 20 holds 9;");
        x.bounds(10, 10);
        x.pump(0);
        c.due("one step", x.plan(2, 1, 0), 0);
        c.due("burns in tank 1", x.move(2, 1, 0, 0), 100);
        x.bounds(20, 20);
        c.due("two steps", x.plan(2, 1, 0), -1);
        c.due("none is left behind the second", x.plan(1, 1, 0), 0);
        c.due("first tank 1", x.move(1, 1, 0, 0), 100);
    }

    // ---- promise 23

    @Says(promise = 23, words = "The FLIGHT has no STEPS: how many it had.")
    static void promise23_fromNoneToTwelve(Check c) {
        FastPlane x = Check.with("tank at 7 holds 15;");
        for (int steps = 0; steps <= 12; steps++) {
            for (int i = 1; i <= steps; i++) {
                c.due("step " + i, x.bounds(7, 7), i);
            }
            c.due("a plan", x.plan(15, 0, 0), steps > 0 ? 0 : -1);
            c.due("land()", x.land(), steps);
            c.due("steps", x.about(5), 0);
            c.due("no plan", x.plan(15, 0, 0), -1);
            c.due("no move", x.move(15, 0, 0, 0), -1);
            c.due("land() again", x.land(), 0);
        }
        FastPlane y = Check.with("tank at 0 holds 9; tank at 10 holds 9;");
        y.pump(0);
        y.land();
        y.bounds(4, 4);
        c.due("PUMP stays", y.plan(6, 0, 0), -1);
    }

    // ---- promise 24

    @Says(promise = 24, words = {"PUMP: true; false, doing nothing, if it can't be.", "up to PUMP (0 .. 3; 2 at first)"})
    static void promise24_fromNoughtToThree(Check c) {
        // With 10 in TANK 0 the mean of the 9 that are left is just what was pumped to TANK 1.
        int[] first = {0, 1, 2, -1, -1};
        for (int mean = 0; mean <= 4; mean++) {
            FastPlane x = flight(THREE, mean, mean);
            c.due("2 at first: " + mean, x.plan(10, 0, 0), first[mean]);
            for (int most = 0; most <= 3; most++) {
                c.due("pump(" + most + ")", x.pump(most), true);
                for (int none : new int[] {-1, 4, 5, LOW, HIGH}) {
                    c.due("pump(" + none + ")", x.pump(none), false);
                }
                c.due("up to " + most + ": " + mean, x.plan(10, 0, 0), mean <= most ? mean : -1);
            }
            x.pump(0);
            c.due("none: " + mean, x.plan(10, 0, 0), mean == 0 ? 0 : -1);
        }
    }

    // ---- promise 25

    @Says(promise = 25, words = {"PLAN with fuel in TANKS 0, 1, 2 (0 in those that are not): how much is pumped; NONE if"
        + " there is none, fuel can't be, or no STEPS.", "TANKS have so much as it begins (0 .. holds each)"})
    static void promise25_eachEndOfFuel(Check c) {
        FastPlane x = flight("tank at 0 holds 1; tank at 50 holds 7; tank at 99 holds 15;", 0, 99);
        int[] holds = {1, 7, 15};
        for (int tank = 0; tank < 3; tank++) {
            int[] fuel = {1, 1, 1};
            for (int some : new int[] {0, 1, holds[tank] - 1, holds[tank]}) {
                fuel[tank] = some;
                c.due("tank " + tank + " with " + some, x.plan(fuel[0], fuel[1], fuel[2]), 0);
            }
            for (int some : new int[] {-1, holds[tank] + 1, holds[tank] + 16, 256, LOW, HIGH}) {
                fuel[tank] = some;
                c.due("tank " + tank + " with " + some, x.plan(fuel[0], fuel[1], fuel[2]), -1);
                c.due("tank " + tank + " with " + some, x.move(fuel[0], fuel[1], fuel[2], 0), -1);
            }
        }
        c.due("all full", x.plan(1, 7, 15), 0);
        c.due("all empty", x.plan(0, 0, 0), -1);
        c.due("as much in all, but not so", x.plan(0, 8, 15), -1);
        c.due("one too much, one too little", x.plan(2, 0, 0), -1);
        c.due("below 0, but not in all", x.plan(1, -1, 2), -1);
    }

    @Says(promise = 25, words = {"(0 in those that are not)", "3 TANKS (at 0 .. 99; holds 1 .. 15)"})
    static void promise25_tanksThatAreNot(Check c) {
        for (int tanks = 0; tanks <= 3; tanks++) {
            FastPlane x = flight("tank at 9 holds 15;".repeat(tanks), 0, 99);
            int[] fuel = new int[3];
            for (int tank = 0; tank < 3; tank++) {
                fuel[tank] = 1;
                c.due(tanks + " tanks, fuel in " + tank, x.plan(fuel[0], fuel[1], fuel[2]), tank < tanks ? 0 : -1);
                fuel[tank] = 0;
            }
            c.due(tanks + " tanks, no fuel", x.plan(0, 0, 0), -1);
        }
        // The mean of 5 in one TANK stays, wherever else one might pump.
        FastPlane one = flight("tank at 5 holds 15;", 0, 4);
        c.due("nothing is pumped to none", one.plan(6, 0, 0), -1);
        FastPlane two = flight("tank at 5 holds 15;tank at 5 holds 15;", 0, 4);
        c.due("nothing is pumped to none", two.plan(6, 6, 0), -1);
    }

    @Says(promise = 25, words = {"or no STEPS", "then 1 is burnt from a TANK that has some"})
    static void promise25_fuelForEachStep(Check c) {
        FastPlane x = Check.with(THREE);
        c.due("no steps", x.plan(1, 1, 1), -1);
        for (int steps = 1; steps <= 12; steps++) {
            x.bounds(0, 99);
            c.due("one less than steps", x.plan(steps / 2, steps - steps / 2 - 1, 0), -1);
            c.due("just enough", x.plan(0, steps / 2, steps - steps / 2), 0);
            c.due("one more", x.plan(1, steps / 2, steps - steps / 2), 0);
            c.due("all full", x.plan(15, 15, 15), 0);
        }
    }

    @Says(promise = 25, words = {"then, if any fuel is left, BALANCE (the sum of fuel * at) must be no less than from * fuel"
        + " and no more than to * fuel of all together"})
    static void promise25_balanceJustWithinAndBeside(Check c) {
        FastPlane none = new FastPlane();
        Check.machine(none, "tank at 7 holds 15;");
        int[][] bounds = {{7, 7}, {0, 7}, {7, 99}, {0, 6}, {8, 99}};
        int[] due = {0, 0, 0, -1, -1};
        for (int i = 0; i < bounds.length; i++) {
            none.land();
            none.bounds(bounds[i][0], bounds[i][1]);
            c.due("2 at 7 by " + bounds[i][0] + " .. " + bounds[i][1], none.plan(2, 0, 0), due[i]);
            c.due("15 at 7 by " + bounds[i][0] + " .. " + bounds[i][1], none.plan(15, 0, 0), due[i]);
            c.due("nothing is left", none.plan(1, 0, 0), 0);
        }
    }

    @Says(promise = 25, words = "BALANCE (the sum of fuel * at) must be no less than from * fuel")
    static void promise25_balanceOfFractions(Check c) {
        // Left are 2 at 10 and 1 at 20: 40 of 3, which is between 13 and 14; what else can be left is above 30.
        int[][] bounds = {{13, 14}, {14, 30}, {0, 13}, {0, 14}, {13, 30}, {12, 13}, {14, 14}, {13, 13}};
        int[] due = {0, -1, -1, 0, 0, -1, -1, -1};
        for (int i = 0; i < bounds.length; i++) {
            FastPlane x = flight("tank at 10 holds 2; tank at 20 holds 1; tank at 99 holds 1;", bounds[i][0], bounds[i][1]);
            x.pump(0);
            FastPlane y = flight("tank at 99 holds 1; tank at 20 holds 1; tank at 10 holds 2;", bounds[i][0], bounds[i][1]);
            y.pump(0);
            c.due("13 and a third by " + bounds[i][0] + " .. " + bounds[i][1], x.plan(2, 1, 1), due[i]);
            c.due("turned", y.plan(1, 1, 2), due[i]);
        }
    }

    @Says(promise = 25, words = {"In a STEP first up to PUMP", "is pumped from one TANK to another (or nothing)"})
    static void promise25_firstPumpedThenBurnt(Check c) {
        FastPlane one = flight("tank at 0 holds 1; tank at 50 holds 1; tank at 99 holds 1;", 50, 50);
        c.due("one is pumped, the other one burnt", one.plan(1, 0, 1), 1);
        c.due("tank 0 burns what it has", one.move(1, 0, 1, 0), 9 + 6 + 1);
        FastPlane pumped = flight("tank at 0 holds 2; tank at 50 holds 1;", 50, 50);
        c.due("pumped, and then tank 0 burns", pumped.plan(2, 0, 0), 1);
        c.due("its move", pumped.move(2, 0, 0, 0), 9 + 1);
        FastPlane full = flight("tank at 0 holds 3; tank at 50 holds 1;", 25, 25);
        c.due("room for one", full.plan(3, 0, 0), 1);
        c.due("room for none", full.plan(3, 1, 0), -1);
        FastPlane last = flight("tank at 0 holds 3; tank at 50 holds 3;", 0, 99);
        c.due("the last fuel", last.plan(0, 1, 0), 0);
        last.bounds(0, 99);
        c.due("nothing to burn", last.plan(0, 1, 0), -1);
    }

    @Says(promise = 25, words = {"first up to PUMP", "is pumped from one TANK to another", "holds 1 .. 15"})
    static void promise25_asMuchAsIsThereAndAsThereIsRoomFor(Check c) {
        for (int room = 0; room <= 3; room++) {
            // All that is left is to be in TANK 1: TANK 0 has one to burn and so many to pump.
            FastPlane x = flight("tank at 0 holds 15; tank at 10 holds 15;", 10, 10);
            x.pump(3);
            c.due("pumps " + room, x.plan(room + 1, 15 - room, 0), room);
            c.due("room for one less", x.plan(room + 1, 16 - room, 0), -1);
            c.due("one more to pump", x.plan(room + 2, 15 - room, 0), -1);
        }
        FastPlane most = flight("tank at 0 holds 15; tank at 10 holds 15;", 0, 0);
        most.pump(3);
        c.due("3 of 15", most.plan(0, 4, 0), 3);
        c.due("4 are too many", most.plan(0, 5, 0), -1);
        c.due("all but one", most.plan(12, 4, 0), 3);
        c.due("room for two", most.plan(13, 4, 0), -1);
    }

    @Says(promise = 25, words = "TANKS have so much as it begins (0 .. holds each)")
    static void promise25_roomIsOfTheTankThatIsPumpedTo(Check c) {
        for (int i = 0; i <= 5; i++) {
            // All that is left is to be in the TANK at 10: one is pumped there, one is burnt.
            FastPlane up = flight("tank at 0 holds 5; tank at 10 holds 15;", 10, 10);
            c.due("to the larger one, " + i, up.plan(2, 9 + i, 0), 1);
            FastPlane down = flight("tank at 0 holds 15; tank at 10 holds 5;", 10, 10);
            c.due("to the smaller one, " + i, down.plan(2, 2 + i, 0), 3 + i <= 5 ? 1 : -1);
            FastPlane third = flight("tank at 0 holds 3; tank at 5 holds 15; tank at 10 holds 9;", 10, 10);
            c.due("to the last one, " + i, third.plan(0, 2, 5 + i), 6 + i <= 9 ? 1 : -1);
        }
    }

    private static FastPlane flight(String tanks, int pump, int from, int to) {
        FastPlane x = flight(tanks, from, to);
        x.pump(pump);
        return x;
    }

    @Says(promise = 25, words = {"1 is burnt from a TANK that has some", "TANKS have so much as it begins (0 .. holds each)"})
    static void promise25_noMoreThanIsThereAndNoMoreThanFits(Check c) {
        FastPlane burnt = flight("tank at 0 holds 15; tank at 10 holds 15; tank at 99 holds 15;", 3, 10, 10);
        c.due("an empty tank does not burn", burnt.plan(1, 0, 15), -1);
        FastPlane full = flight("tank at 99 holds 15; tank at 20 holds 15; tank at 0 holds 15;", 0, 13, 45);
        c.due("nor does it burn ahead of one that has some", full.plan(3, 0, 15), 0);
        c.due("nor does it burn ahead of one that has some", full.move(3, 0, 15, 0), 200);
        FastPlane pumped = flight("tank at 10 holds 15; tank at 20 holds 15; tank at 0 holds 15;", 2, 0, 13);
        c.due("nothing comes out of an empty tank", pumped.plan(0, 14, 0), -1);
        FastPlane both = flight("tank at 50 holds 15; tank at 20 holds 15; tank at 0 holds 15;", 2, 18, 48);
        c.due("nothing goes into a full tank", both.plan(0, 0, 15), -1);
        FastPlane over = flight("tank at 20 holds 15; tank at 90 holds 15; tank at 20 holds 15;", 3, 20, 20);
        c.due("nothing goes into a full tank", over.plan(1, 15, 0), -1);
        FastPlane turned = flight("tank at 0 holds 15; tank at 10 holds 15; tank at 99 holds 15;", 3, 92, 93);
        c.due("nothing goes into a full tank", turned.plan(0, 15, 1), -1);
    }

    @Says(promise = 25, words = "3 TANKS (at 0 .. 99; holds 1 .. 15)")
    static void promise25_tanksThatAreFull(Check c) {
        FastPlane like = flight("tank at 10 holds 15; tank at 10 holds 15; tank at 10 holds 15;", 10, 10);
        c.due("two are full", like.plan(15, 15, 0), 0);
        c.due("two are full", like.move(15, 15, 0, 0), 0);
        c.due("all are full", like.plan(15, 15, 15), 0);
        c.due("all are full", like.move(15, 15, 15, 0), 0);
        FastPlane last = flight("tank at 50 holds 15; tank at 50 holds 15; tank at 0 holds 15;", 48, 49);
        last.bounds(50, 50);
        c.due("two stay full", last.plan(15, 15, 2), 0);
        c.due("tank 2 burns", last.move(15, 15, 2, 0), 200);
        c.due("tank 2 burns", last.move(15, 15, 2, 1), 200);
        FastPlane filled = flight("tank at 90 holds 15; tank at 20 holds 15; tank at 99 holds 15;", 53, 54);
        c.due("one is filled", filled.plan(15, 13, 2), 2);
        c.due("by tank 2, and tank 0 burns", filled.move(15, 13, 2, 0), 18 + 6 + 1);
    }

    @Says(promise = 25, words = "PLAN: the least pumped in all")
    static void promise25_theLeastInAll(Check c) {
        FastPlane x = flight("tank at 0 holds 15; tank at 10 holds 15;", 0, 99);
        x.bounds(10, 10);
        c.due("by burning the right one", x.plan(2, 3, 0), 0);
        c.due("first tank 0", x.move(2, 3, 0, 0), 0);
        c.due("then tank 0 again", x.move(2, 3, 0, 1), 0);
        c.due("one is pumped", x.plan(3, 3, 0), 1);
        c.due("three are pumped", x.plan(5, 3, 0), 3);
        c.due("four are pumped", x.plan(6, 3, 0), 4);
        c.due("no more than four", x.plan(7, 3, 0), -1);
    }

    // ---- promise 26

    @Says(promise = 26, words = {"The MOVE of a STEP (0 ..) of it; NONE likewise.", "or no STEPS."})
    static void promise26_noSuchStep(Check c) {
        FastPlane x = Check.with(THREE);
        c.due("no steps", x.move(1, 1, 1, 0), -1);
        for (int steps = 1; steps <= 12; steps++) {
            x.bounds(0, 99);
            for (int step : new int[] {0, steps - 1}) {
                c.due(steps + " steps, move " + step, x.move(12, 0, 0, step), 0);
            }
            for (int step : new int[] {-1, steps, 12, 13, LOW, HIGH}) {
                c.due(steps + " steps, move " + step, x.move(12, 0, 0, step), -1);
            }
        }
        c.due("fuel can't be", x.move(16, 0, 0, 0), -1);
        c.due("fuel can't be", x.move(-1, 13, 0, 0), -1);
        c.due("there is none", x.move(11, 0, 0, 0), -1);
    }

    @Says(promise = 26, words = "a MOVE is 9 * pumped + 3 * from + to (0 if nothing is pumped) plus 100 * the TANK that"
        + " burns.")
    static void promise26_eachMove(Check c) {
        for (int from = 0; from < 3; from++) {
            for (int to = 0; to < 3; to++) {
                for (int pumped = from == to ? 4 : 0; pumped <= 3; pumped++) {
                    int mean = PLACES[from] + pumped * (PLACES[to] - PLACES[from]) / 9;
                    FastPlane x = flight(THREE, mean, mean);
                    x.pump(3);
                    int[] fuel = new int[3];
                    fuel[from] = 10;
                    int move = 100 * from + (pumped > 0 ? 9 * pumped + 3 * from + to : 0);
                    c.due("mean " + mean, x.plan(fuel[0], fuel[1], fuel[2]), pumped);
                    c.due("from " + from + " to " + to, x.move(fuel[0], fuel[1], fuel[2], 0), move);
                }
            }
        }
    }

    @Says(promise = 26, words = "of like ones the first by MOVES, STEP by STEP")
    static void promise26_theFirstOfLikeOnes(Check c) {
        FastPlane x = flight(THREE, 0, 99);
        c.due("tank 0 burns", x.move(1, 1, 1, 0), 0);
        c.due("tank 1 burns", x.move(0, 1, 1, 0), 100);
        c.due("tank 2 burns", x.move(0, 0, 1, 0), 200);
        x.bounds(0, 99);
        x.bounds(0, 99);
        int[] moves = {0, 100, 200};
        for (int step = 0; step < 3; step++) {
            c.due("one after the other, " + step, x.move(1, 1, 1, step), moves[step]);
        }
        // TANKS 1 and 2 are at one place.
        FastPlane like = flight("tank at 0 holds 9; tank at 10 holds 9; tank at 10 holds 9;", 5, 5);
        c.due("one is pumped", like.plan(4, 1, 0), 1);
        c.due("to tank 1 ahead of tank 2", like.move(4, 1, 0, 0), 9 + 1);
        c.due("to tank 1 ahead of tank 2", like.move(5, 0, 0, 0), 18 + 1);
        c.due("from tank 1 ahead of tank 2, but burnt in tank 1", like.move(0, 2, 1, 0), 100 + 9 + 3);
        FastPlane later = flight("tank at 0 holds 9; tank at 10 holds 9;", 0, 99);
        later.bounds(5, 5);
        c.due("one in all", later.plan(5, 1, 0), 1);
        c.due("in the second step, for nothing is the least", later.move(5, 1, 0, 0), 0);
        c.due("in the second step", later.move(5, 1, 0, 1), 10);
        // In one STEP only two can be pumped, and three have to be: one of them first.
        c.due("three in all", later.plan(8, 0, 0), 3);
        c.due("one first", later.move(8, 0, 0, 0), 9 + 1);
        c.due("two then", later.move(8, 0, 0, 1), 18 + 1);
    }

    @Says(promise = 26, words = {"of like ones the first by MOVES, STEP by STEP", "first up to PUMP"})
    static void promise26_whoBurnsComesFirst(Check c) {
        FastPlane x = flight("tank at 20 holds 15; tank at 10 holds 15; tank at 90 holds 15;", 1, 14, 33);
        c.due("what is left is in tank 0", x.plan(0, 1, 1), 1);
        c.due("tank 1 burns ahead of tank 2, though it is pumped from a later one", x.move(0, 1, 1, 0), 100 + 9 + 6);
        FastPlane y = flight("tank at 0 holds 15; tank at 10 holds 15; tank at 20 holds 15;", 1, 4, 18);
        c.due("one is pumped", y.plan(0, 1, 15), 1);
        c.due("only tank 2 can burn then", y.move(0, 1, 15, 0), 200 + 9 + 6);
        // Two at once would let TANK 0 burn first, but PUMP is 1.
        FastPlane once = flight("tank at 20 holds 15; tank at 99 holds 15; tank at 10 holds 15;", 1, 20, 30);
        once.bounds(29, 30);
        c.due("two in all", once.plan(5, 3, 0), 2);
        c.due("one in the first step", once.move(5, 3, 0, 0), 100 + 9 + 3 + 2);
        c.due("one in the second step", once.move(5, 3, 0, 1), 9 + 2);
        once.pump(2);
        c.due("with PUMP 2 still two in all", once.plan(5, 3, 0), 2);
        c.due("both in the first step", once.move(5, 3, 0, 0), 18 + 3 + 2);
        c.due("none in the second step", once.move(5, 3, 0, 1), 0);
    }

    @Says(promise = 26, words = "The MOVE of a STEP (0 ..) of it")
    static void promise26_whatWasAskedForBeforeDoesNotCount(Check c) {
        FastPlane x = flight(THREE, 0, 99);
        c.due("tank 0", x.move(2, 0, 0, 0), 0);
        c.due("as much in tank 1", x.move(0, 2, 0, 0), 100);
        c.due("as much in tank 2", x.move(0, 0, 2, 0), 200);
        c.due("more", x.plan(3, 3, 3), 0);
        x.bounds(9, 9);
        c.due("with a step more", x.move(0, 3, 0, 1), 100);
        c.due("with a step more", x.plan(3, 0, 0), 1);
        x.pump(0);
        c.due("with PUMP 0", x.plan(3, 0, 0), -1);
        Check.machine(x, "tank at 9 holds 9;");
        x.bounds(9, 9);
        c.due("of another machine", x.plan(3, 0, 0), 0);
        c.due("of another machine", x.plan(0, 3, 0), -1);
    }
}

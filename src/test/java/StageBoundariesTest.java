/** Boundary cases of STAGES, money and VETOES: promises 33 to 37. */
public final class StageBoundariesTest {
    private static final int LOW = Check.LOW;
    private static final int HIGH = Check.HIGH;
    private static final int[] NO_MONEY = {-1, -2, 31, 32, 1000, LOW, HIGH};
    private static final int[] NO_VETOES = {-1, -2, 7, 8, LOW, HIGH};

    public static void main(String[] args) {
        Boundaries.run(StageBoundariesTest.class);
    }

    /** STAGES of a cost and a part each. */
    private static FastPlane stages(int... costsAndParts) {
        FastPlane x = new FastPlane();
        for (int i = 0; i < costsAndParts.length; i += 2) {
            x.stage(costsAndParts[i], costsAndParts[i + 1]);
        }
        return x;
    }

    // ---- promise 33

    @Says(promise = 33, words = {"A STAGE: its number; NONE, doing nothing, if one can't be", "each costs so much (0 .. 30),"
        + " of which LAND 0 pays part (0 .. 10) of ten"})
    static void promise33_eachEndOfCostAndPart(Check c) {
        FastPlane x = new FastPlane();
        int[][] can = {{0, 0}, {0, 10}, {30, 0}, {30, 10}, {1, 1}, {29, 9}};
        for (int number = 0; number < can.length; number++) {
            for (int cost : new int[] {-1, 31, 32, LOW, HIGH}) {
                c.due("stage(" + cost + ", " + can[number][1] + ")", x.stage(cost, can[number][1]), -1);
            }
            for (int part : new int[] {-1, 11, 12, LOW, HIGH}) {
                c.due("stage(" + can[number][0] + ", " + part + ")", x.stage(can[number][0], part), -1);
            }
            c.due("nothing done", x.about(9), number);
            c.due("a stage", x.stage(can[number][0], can[number][1]), number);
        }
        c.due("both can't be", x.stage(31, 11), -1);
        FastPlane none = new FastPlane();
        none.stage(31, 5);
        none.stage(30, 11);
        none.stage(-1, 0);
        c.due("none of them is there", none.should(30, 30, 0), -1);
        c.due("none of them costs", none.safe(0, 0, 6), 1);
    }

    @Says(promise = 33, words = {"STAGES, 8 at most", "NONE, doing nothing, if one can't be, or there are 8."})
    static void promise33_theEighthAndOneMore(Check c) {
        FastPlane x = new FastPlane();
        for (int stage = 0; stage < 8; stage++) {
            c.due("stage " + stage, x.stage(2, 5), stage);
            c.due("about(9)", x.about(9), stage + 1);
            c.due("each one costs", x.safe(stage + 1, stage + 1, 0), 1);
            c.due("each one costs", x.safe(stage + 1, stage, 0), 0);
            c.due("each one costs", x.safe(stage, stage + 1, 0), 0);
        }
        c.due("one more", x.stage(2, 5), -1);
        c.due("can't be, either", x.stage(31, 5), -1);
        c.due("about(9)", x.about(9), 8);
        c.due("it does not cost", x.safe(8, 8, 0), 1);
        Check.machine(x, "");
        c.due("they stay", x.stage(0, 0), -1);
    }

    // ---- promise 34

    @Says(promise = 34, words = {"GRANT and SLACK: true; false, doing nothing, if one can't be.", "GRANT (0 .. 9) and SLACK"
        + " (0 .. 4): 0 and 0 at first."})
    static void promise34_eachEndOfGrantAndSlack(Check c) {
        // One STAGE of 30 for LAND 0: it is SAFE as soon as SLACK times GRANT is what lacks.
        FastPlane x = stages(30, 10);
        c.due("0 and 0 at first", x.safe(30, 0, 0), 1);
        c.due("0 and 0 at first", x.safe(29, 0, 0), 0);
        for (int grant : new int[] {0, 1, 8, 9}) {
            for (int slack : new int[] {0, 1, 3, 4}) {
                c.due("grant(" + grant + ", " + slack + ")", x.grant(grant, slack), true);
                for (int none : new int[] {-1, 10, 11, LOW, HIGH}) {
                    c.due("grant(" + none + ", " + slack + ")", x.grant(none, slack), false);
                }
                for (int none : new int[] {-1, 5, 6, LOW, HIGH}) {
                    c.due("grant(" + grant + ", " + none + ")", x.grant(grant, none), false);
                }
                int least = Math.max(0, 30 - grant * slack);
                c.due("as much as that", x.safe(least, 0, 0), 1);
                if (least > 0) {
                    c.due("one less", x.safe(least - 1, 0, 0), 0);
                }
            }
        }
        c.due("nothing again", x.grant(0, 0), true);
        c.due("nothing again", x.safe(29, 0, 0), 0);
    }

    // ---- promise 35

    @Says(promise = 35, words = {"1 if it is SAFE with so many VETOES and the money of both LANDS, else 0; NONE if one can't"
        + " be.", "The money of both LANDS is 0 .. 30 each.", "SAFE with so many VETOES (0 .. 6)"})
    static void promise35_eachEndOfMoneyAndVetoes(Check c) {
        for (int stages = 0; stages <= 1; stages++) {
            FastPlane x = stages > 0 ? stages(0, 0) : stages();
            for (int vetoes = 0; vetoes <= 6; vetoes++) {
                c.due("no money, " + vetoes, x.safe(0, 0, vetoes), 1);
                c.due("all money, " + vetoes, x.safe(30, 30, vetoes), 1);
                c.due("all of one, " + vetoes, x.safe(0, 30, vetoes), 1);
                c.due("all of the other, " + vetoes, x.safe(30, 0, vetoes), 1);
            }
            for (int none : NO_MONEY) {
                c.due("safe(" + none + ", 0, 0)", x.safe(none, 0, 0), -1);
                c.due("safe(30, " + none + ", 6)", x.safe(30, none, 6), -1);
            }
            for (int none : NO_VETOES) {
                c.due("safe(30, 30, " + none + ")", x.safe(30, 30, none), -1);
            }
        }
    }

    @Says(promise = 35, words = {"of which LAND 0 pays part (0 .. 10) of ten (cut), LAND 1 the rest.",
        "Where a LAND has not what it is to pay, all is lost."})
    static void promise35_whatEachLandPays(Check c) {
        for (int cost : new int[] {0, 1, 9, 10, 29, 30}) {
            for (int part = 0; part <= 10; part++) {
                FastPlane x = stages(cost, part);
                int first = cost * part / 10;
                String said = cost + " by " + part + ": ";
                c.due(said + "just enough", x.safe(first, cost - first, 0), 1);
                if (first > 0) {
                    c.due(said + "land 0 lacks one", x.safe(first - 1, 30, 0), 0);
                }
                if (cost > first) {
                    c.due(said + "land 1 lacks one", x.safe(30, cost - first - 1, 0), 0);
                }
            }
        }
    }

    @Says(promise = 35, words = {"then one LAND may VETO it", "it pays nothing for that STAGE, and the other LAND pays all.",
        "whatever is VETOED when."})
    static void promise35_oneVeto(Check c) {
        for (int part : new int[] {0, 3, 10}) {
            FastPlane x = stages(10, part);
            for (int vetoes = 1; vetoes <= 6; vetoes++) {
                c.due("each can pay all", x.safe(10, 10, vetoes), 1);
                c.due("land 0 can't", x.safe(9, 30, vetoes), 0);
                c.due("land 1 can't", x.safe(30, 9, vetoes), 0);
            }
        }
    }

    @Says(promise = 35, words = "(no more than so many times in all, both together)")
    static void promise35_soManyVetoesInAll(Check c) {
        // Three STAGES of 4, half each: with v VETOES a LAND may have to pay 2 * 3 + 2 * v.
        FastPlane x = stages(4, 5, 4, 5, 4, 5);
        for (int vetoes = 0; vetoes <= 6; vetoes++) {
            int most = 6 + 2 * Math.min(3, vetoes);
            c.due(vetoes + " vetoes, enough", x.safe(most, most, vetoes), 1);
            c.due(vetoes + " vetoes, land 0 lacks one", x.safe(most - 1, 30, vetoes), 0);
            c.due(vetoes + " vetoes, land 1 lacks one", x.safe(30, most - 1, vetoes), 0);
        }
        // Eight of 3: with six VETOES one LAND pays 6 * 3 and twice its own.
        FastPlane eight = stages(3, 5, 3, 5, 3, 5, 3, 5, 3, 5, 3, 5, 3, 5, 3, 5);
        c.due("six", eight.safe(20, 22, 6), 1);
        c.due("six, land 0 lacks one", eight.safe(19, 22, 6), 0);
        c.due("six, land 1 lacks one", eight.safe(20, 21, 6), 0);
        c.due("five", eight.safe(18, 21, 5), 1);
        c.due("five, land 0 lacks one", eight.safe(17, 21, 5), 0);
        c.due("five, land 1 lacks one", eight.safe(18, 20, 5), 0);
    }

    @Says(promise = 35, words = {"In a YEAR one WAITS (no more than SLACK times in all: each LAND gets GRANT, up to 30)",
        "or goes on with the next STAGE"})
    static void promise35_waitsNoMoreThanSlack(Check c) {
        for (int slack = 0; slack <= 4; slack++) {
            FastPlane x = stages(10, 5, 10, 5);
            x.grant(2, slack);
            int least = Math.max(0, 10 - 2 * slack);
            c.due(slack + " times", x.safe(least, least, 0), 1);
            c.due(slack + " times, land 0 lacks one", x.safe(least - 1, 30, 0), least > 0 ? 0 : -1);
            c.due(slack + " times, land 1 lacks one", x.safe(30, least - 1, 0), least > 0 ? 0 : -1);
        }
        FastPlane both = stages(20, 5);
        both.grant(5, 1);
        c.due("each gets it", both.safe(5, 5, 0), 1);
        c.due("not one twice", both.safe(0, 10, 0), 0);
        c.due("not one twice", both.safe(10, 0, 0), 0);
    }

    @Says(promise = 35, words = {"no more than SLACK times in all", "SAFE with so many VETOES (0 .. 6)"})
    static void promise35_eachSlackWithEachVetoes(Check c) {
        // LAND 0 pays 8 and 2 more for each VETO, LAND 1 pays 16 and 1 more; each gets 1 for each WAIT.
        FastPlane x = stages(3, 5, 3, 5, 3, 5, 3, 5, 3, 5, 3, 5, 3, 5, 3, 5);
        for (int slack = 0; slack <= 4; slack++) {
            x.grant(1, slack);
            for (int vetoes = 0; vetoes <= 6; vetoes++) {
                int first = 8 + 2 * vetoes - slack;
                int second = 16 + vetoes - slack;
                String said = slack + " and " + vetoes + ": ";
                c.due(said + "just enough", x.safe(first, second, vetoes), 1);
                c.due(said + "land 0 lacks one", x.safe(first - 1, 30 - slack, vetoes), 0);
                c.due(said + "land 1 lacks one", x.safe(30 - slack, second - 1, vetoes), 0);
                c.due(said + "what to do", x.should(first, second, vetoes) >= 0, true);
            }
        }
    }

    @Says(promise = 35, words = "each LAND gets GRANT, up to 30)")
    static void promise35_moneyUpTo30(Check c) {
        // 60 in all of LAND 0: who WAITS with 29 gets only 1.
        FastPlane x = stages(30, 10, 30, 10);
        x.grant(9, 4);
        c.due("30 and four times 9", x.safe(30, 0, 0), 1);
        c.due("one of them has to come first", x.safe(29, 0, 0), 0);
        x.grant(8, 4);
        c.due("30 and four times 8", x.safe(30, 0, 0), 1);
        x.grant(7, 4);
        c.due("30 and four times 7", x.safe(30, 0, 0), 0);
        FastPlane second = stages(30, 0, 30, 0);
        second.grant(9, 4);
        c.due("land 1, too", second.safe(0, 30, 0), 1);
        c.due("land 1, too", second.safe(0, 29, 0), 0);
        FastPlane late = stages(28, 10, 9, 10);
        late.grant(9, 1);
        c.due("28 now, and 9 later", late.safe(28, 0, 0), 1);
        c.due("27 and 3 of 9 now", late.safe(27, 0, 0), 0);
    }

    @Says(promise = 35, words = {"one can come to the end of all STAGES", "are done one behind the other"})
    static void promise35_waitingIsForLater(Check c) {
        FastPlane x = stages(10, 10, 10, 0);
        x.grant(5, 2);
        c.due("waits in the second year, too", x.safe(0, 0, 0), 1);
        c.due("no veto can be borne", x.safe(0, 0, 1), 0);
        c.due("one can", x.safe(10, 10, 1), 1);
        FastPlane turned = stages(0, 0, 30, 10);
        turned.grant(9, 4);
        c.due("ahead of the last stage", turned.safe(0, 0, 0), 1);
        turned.grant(7, 4);
        c.due("28 are not enough", turned.safe(1, 0, 0), 0);
        c.due("but 30", turned.safe(2, 0, 0), 1);
    }

    // ---- promise 36

    @Says(promise = 36, words = {"The most VETOES (0 .. 6) with which it is SAFE; NONE if it never is, or one can't be."})
    static void promise36_fromNoneToSix(Check c) {
        FastPlane none = new FastPlane();
        FastPlane x = stages(3, 5, 3, 5, 3, 5, 3, 5, 3, 5, 3, 5, 3, 5, 3, 5);
        for (int money : NO_MONEY) {
            c.due("bears(" + money + ", 30)", x.bears(money, 30), -1);
            c.due("bears(30, " + money + ")", x.bears(30, money), -1);
            c.due("bears(" + money + ", " + money + ")", none.bears(money, money), -1);
        }
        c.due("no stages", none.bears(0, 0), 6);
        c.due("no stages", none.bears(30, 30), 6);
        // LAND 0 pays 8 and 2 more for each VETO, LAND 1 pays 16 and 1 more.
        for (int vetoes = 0; vetoes <= 6; vetoes++) {
            c.due("just " + vetoes, x.bears(8 + 2 * vetoes, 16 + vetoes), vetoes);
            c.due("land 0 lacks one for " + vetoes, x.bears(7 + 2 * vetoes, 30), vetoes - 1);
            c.due("land 1 lacks one for " + vetoes, x.bears(30, 15 + vetoes), vetoes - 1);
        }
        c.due("all money", x.bears(30, 30), 6);
        c.due("no money", x.bears(0, 0), -1);
    }

    @Says(promise = 36, words = "The most VETOES (0 .. 6) with which it is SAFE")
    static void promise36_noMoreStagesThanVetoes(Check c) {
        FastPlane x = stages(10, 5);
        c.due("none", x.bears(5, 5), 0);
        c.due("none", x.bears(9, 30), 0);
        c.due("all that can be", x.bears(10, 10), 6);
        c.due("never", x.bears(4, 30), -1);
        c.due("never", x.bears(30, 4), -1);
    }

    // ---- promise 37

    @Says(promise = 37, words = {"What keeps it SAFE in the first YEAR: 1 to go on, 0 to WAIT (1 if both do); NONE if it is"
        + " not SAFE, there are no STAGES, or one can't be."})
    static void promise37_whatCanNotBe(Check c) {
        FastPlane none = new FastPlane();
        FastPlane x = stages(0, 0);
        for (int money : NO_MONEY) {
            c.due("should(" + money + ", 30, 0)", x.should(money, 30, 0), -1);
            c.due("should(30, " + money + ", 6)", x.should(30, money, 6), -1);
        }
        for (int vetoes : NO_VETOES) {
            c.due("should(30, 30, " + vetoes + ")", x.should(30, 30, vetoes), -1);
        }
        for (int vetoes = 0; vetoes <= 6; vetoes++) {
            c.due("should(0, 0, " + vetoes + ")", x.should(0, 0, vetoes), 1);
            c.due("should(30, 30, " + vetoes + ")", x.should(30, 30, vetoes), 1);
            c.due("no stages", none.should(0, 0, vetoes), -1);
            c.due("no stages", none.should(30, 30, vetoes), -1);
        }
        none.grant(9, 4);
        c.due("no stages, though one may wait", none.should(0, 0, 0), -1);
    }

    @Says(promise = 37, words = {"or one can't be.", "The money of both LANDS is 0 .. 30 each."})
    static void promise37_moneyThatCanNotBeThoughItWereEnough(Check c) {
        FastPlane x = stages(5, 5, 5, 5);
        x.grant(9, 4);
        for (int none : new int[] {-1, -2, 31, 32, 35, 40}) {
            c.due("safe(" + none + ", 30, 0)", x.safe(none, 30, 0), -1);
            c.due("safe(30, " + none + ", 0)", x.safe(30, none, 0), -1);
            c.due("bears(" + none + ", 30)", x.bears(none, 30), -1);
            c.due("bears(30, " + none + ")", x.bears(30, none), -1);
            c.due("should(" + none + ", 30, 0)", x.should(none, 30, 0), -1);
            c.due("should(30, " + none + ", 0)", x.should(30, none, 0), -1);
        }
        for (int money : new int[] {0, 1, 29, 30}) {
            c.due("safe(" + money + ", 30, 0)", x.safe(money, 30, 0), 1);
            c.due("bears(" + money + ", 30)", x.bears(money, 30), 6);
            c.due("should(" + money + ", 30, 0)", x.should(money, 30, 0), money < 2 ? 0 : 1);
            c.due("should(30, " + money + ", 0)", x.should(30, money, 0), money < 3 ? 0 : 1);
        }
    }

    @Says(promise = 37, words = "1 to go on, 0 to WAIT (1 if both do); NONE if it is not SAFE")
    static void promise37_goOnOrWait(Check c) {
        FastPlane x = stages(10, 5);
        int[] without = {-1, -1, -1, -1, -1, 1, 1};
        int[] with = {-1, -1, -1, 0, 0, 1, 1};
        for (int slack = 0; slack <= 1; slack++) {
            x.grant(2, slack);
            for (int money = 0; money < with.length; money++) {
                c.due("slack " + slack + ", money " + money, x.should(money, money, 0),
                    slack == 0 ? without[money] : with[money]);
                c.due("slack " + slack + ", money of land 0 " + money, x.should(money, 30, 0),
                    slack == 0 ? without[money] : with[money]);
                c.due("slack " + slack + ", money of land 1 " + money, x.should(30, money, 0),
                    slack == 0 ? without[money] : with[money]);
            }
        }
        x.grant(2, 4);
        c.due("four times", x.should(0, 0, 0), 0);
        c.due("a veto", x.should(2, 2, 1), 0);
        c.due("a veto", x.should(9, 9, 1), 0);
        c.due("a veto", x.should(10, 10, 1), 1);
        c.due("a veto", x.should(1, 1, 1), -1);
        x.grant(0, 4);
        c.due("nothing comes", x.should(4, 5, 0), -1);
        c.due("waiting does no harm", x.should(5, 5, 0), 1);
    }

    @Says(promise = 37, words = "in the first YEAR")
    static void promise37_ofTheFirstYearAlone(Check c) {
        FastPlane x = stages(1, 5, 10, 5);
        x.grant(5, 1);
        c.due("goes on, and waits later", x.should(0, 1, 0), 1);
        c.due("goes on, and waits later", x.should(5, 6, 0), 1);
        FastPlane rich = stages(28, 10, 9, 10);
        rich.grant(9, 1);
        c.due("to wait would lose it", rich.should(28, 0, 0), 1);
        c.due("not safe", rich.should(27, 0, 0), -1);
        FastPlane poor = stages(28, 10, 0, 10);
        poor.grant(9, 1);
        c.due("now it has to wait", poor.should(27, 0, 0), 0);
        c.due("now it has to wait", poor.should(19, 0, 0), 0);
        c.due("not safe", poor.should(18, 0, 0), -1);
    }

    @Says(promise = 37, words = "What keeps it SAFE")
    static void promise37_behindAnotherStageAndAnotherGrant(Check c) {
        FastPlane x = stages(4, 5);
        c.due("one stage", x.should(2, 2, 0), 1);
        x.stage(4, 5);
        c.due("two stages", x.should(2, 2, 0), -1);
        c.due("two stages", x.bears(2, 2), -1);
        x.grant(1, 2);
        c.due("with a grant", x.should(2, 2, 0), 1);
        c.due("with a grant", x.should(1, 1, 0), -1);
        c.due("with a grant", x.safe(2, 2, 0), 1);
        x.grant(1, 5);
        x.grant(10, 4);
        c.due("those can't be", x.should(2, 2, 0), 1);
        x.stage(31, 0);
        c.due("that can't be", x.should(2, 2, 0), 1);
        x.grant(0, 0);
        c.due("without", x.should(2, 2, 0), -1);
    }
}

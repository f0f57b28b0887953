/** Boundary cases of how PARTS are drawn and joined: promises 7 to 10. */
public final class PartBoundariesTest {
    private static final int LOW = Check.LOW;
    private static final int HIGH = Check.HIGH;

    public static void main(String[] args) {
        Boundaries.run(PartBoundariesTest.class);
    }

    // ---- promise 7

    @Says(promise = 7, words = "MILLIMETRES of a PART at a speed; NONE if one is none.")
    static void promise7_noSuchPartOrSpeed(Check c) {
        FastPlane none = new FastPlane();
        c.due("no part at all", none.mm(0, 0), -1);
        for (int parts : new int[] {1, 2, 11, 12}) {
            FastPlane x = Check.with(Check.parts(parts));
            c.due("the first at 0", x.mm(0, 0), 10);
            c.due("the last at 0", x.mm(parts - 1, 0), 10);
            c.due("the last at 30", x.mm(parts - 1, 30), 10);
            c.due("one more", x.mm(parts, 0), -1);
            for (int part : new int[] {-1, 12, 13, LOW, HIGH}) {
                c.due("mm(" + part + ", 0)", x.mm(part, 0), -1);
                c.due("mm(" + part + ", 30)", x.mm(part, 30), -1);
            }
            for (int speed : new int[] {-1, 31, 32, LOW, HIGH}) {
                c.due("mm(0, " + speed + ")", x.mm(0, speed), -1);
                c.due("mm(-1, " + speed + ")", x.mm(-1, speed), -1);
            }
        }
    }

    private static int drawn(String drawn, int grows, int speed) {
        return Check.with(Check.part("a", 0, drawn, grows, 0)).mm(0, speed);
    }

    @Says(promise = 7, words = {"MILLIMETRES of a PART: long * 10 (cm), long * 254 / 10 (inch, cut)",
        "long 1 .. 999"})
    static void promise7_eachEndOfLong(Check c) {
        int[] inches = {25, 50, 76, 101, 127, 152, 177, 203, 228, 254};
        for (int i = 0; i < inches.length; i++) {
            c.due("inches", drawn(i + 1 + " inch", 99, 0), inches[i]);
            c.due("cm", drawn(i + 1 + " cm", 99, 0), 10 * (i + 1));
        }
        c.due("998 cm", drawn("998 cm", 0, 0), 9980);
        c.due("999 cm", drawn("999 cm", 0, 0), 9990);
        c.due("998 inch", drawn("998 inch", 0, 0), 25349);
        c.due("999 inch", drawn("999 inch", 0, 0), 25374);
    }

    @Says(promise = 7, words = {"at a speed v (0 .. 30) more by MILLIMETRES * grows * v * v / 100000 (cut)",
        "grows 0 .. 99"})
    static void promise7_growthIsCut(Check c) {
        // 1000 * 4 * 5 * 5 is just 100000, 1000 * 4 * 4 * 4 less than that.
        c.due("just one", drawn("100 cm", 4, 5), 1001);
        c.due("not yet one", drawn("100 cm", 4, 4), 1000);
        c.due("one and a half", drawn("100 cm", 6, 5), 1001);
        c.due("not yet two", drawn("100 cm", 7, 5), 1001);
        c.due("just two", drawn("100 cm", 8, 5), 1002);
        // 8330 * 3 * 2 * 2 is 99960, 16662 * 6 is 99972, 16687 * 6 is 100122.
        c.due("not yet one", drawn("833 cm", 3, 2), 8330);
        c.due("by the cut inches", drawn("656 inch", 6, 1), 16662);
        c.due("by the cut inches", drawn("657 inch", 6, 1), 16687 + 1);
        c.due("grows 0", drawn("999 inch", 0, 30), 25374);
        c.due("grows 1 at 1", drawn("999 inch", 1, 1), 25374);
        c.due("grows 1 at 2", drawn("999 inch", 1, 2), 25375);
        c.due("speed 0", drawn("999 inch", 99, 0), 25374);
        c.due("speed 29", drawn("999 inch", 99, 29), 25374 + 21126);
    }

    @Says(promise = 7, words = "MILLIMETRES * grows * v * v / 100000 (cut)")
    static void promise7_theGreatestGrowthIsAboveAnInt(Check c) {
        // 25374 * 99 * 30 * 30 is 2260823400, above 2147483647.
        c.due("999 inch, 99, 30", drawn("999 inch", 99, 30), 25374 + 22608);
        // 24130 * 99 * 900 is 2149983000, 24079 * 99 * 900 is 2145438900.
        c.due("just above an int", drawn("950 inch", 99, 30), 24130 + 21499);
        c.due("just within an int", drawn("948 inch", 99, 30), 24079 + 21454);
        FastPlane x = Check.with(Check.part("a", 0, "999 inch", 99, 0) + Check.part("b", 0, "999 inch", 98, 0)
            + "join a b gap 99;");
        c.due("so the join breaks as late as this", x.breaks(0), 20);
        c.due("and is broken at 30", x.clash(30), 1);
    }

    // ---- promise 8

    @Says(promise = 8, words = {"JOINS that do not FIT at a speed, as bits; NONE if there is no such speed.",
        "at a speed v (0 .. 30)"})
    static void promise8_noSuchSpeed(Check c) {
        FastPlane none = new FastPlane();
        FastPlane x = Check.with(Check.part("a", 1, 0) + Check.part("b", 2, 0) + "join a b gap 9;");
        for (int speed : new int[] {-1, 31, 32, LOW, HIGH}) {
            c.due("clash(" + speed + ") of none", none.clash(speed), -1);
            c.due("clash(" + speed + ")", x.clash(speed), -1);
        }
        for (int speed : new int[] {0, 1, 29, 30}) {
            c.due("clash(" + speed + ") of none", none.clash(speed), 0);
            c.due("clash(" + speed + ")", x.clash(speed), 1);
        }
    }

    @Says(promise = 8, words = "A JOIN FITS at a speed, if its two PARTS' MILLIMETRES then differ by no more than gap.")
    static void promise8_aGapIsEnoughOrOneTooSmall(Check c) {
        String ends = Check.part("a", 10, 0) + Check.part("b", 15, 0);
        for (String names : new String[] {"a b", "b a"}) {
            c.due("gap 50", Check.with(ends + "join " + names + " gap 50;").clash(0), 0);
            c.due("gap 51", Check.with(ends + "join " + names + " gap 51;").clash(0), 0);
            c.due("gap 49", Check.with(ends + "join " + names + " gap 49;").clash(0), 1);
        }
        String like = Check.part("a", 10, 0) + Check.part("b", 10, 0) + "join a b gap 0;";
        c.due("gap 0 of like ones", Check.with(like).clash(30), 0);
        String near = Check.part("a", 254, 0) + Check.part("b", 0, "100 inch", 0, 0) + Check.part("c", 0, "101 inch", 0, 0)
            + "join a b gap 0;join a c gap 25;join a c gap 24;";
        c.due("cm and inches", Check.with(near).clash(0), 4);
    }

    @Says(promise = 8, words = {"JOINS that do not FIT at a speed, as bits", "16 JOINS (gap 0 .. 99)"})
    static void promise8_eachOfSixteenBits(Check c) {
        for (int apart = 0; apart <= 16; apart++) {
            StringBuilder text = new StringBuilder(Check.part("a", 10, 0) + Check.part("b", 11, 0));
            for (int join = 0; join < 16; join++) {
                text.append("join b a gap ").append(join == apart ? 9 : 10).append(';');
            }
            c.due("only join " + apart, Check.with(text.toString()).clash(0), apart < 16 ? 1 << apart : 0);
        }
        c.due("all", Check.with(Check.part("a", 10, 0) + Check.part("b", 20, 0) + "join a b gap 99;".repeat(16)).clash(7),
            65535);
    }

    @Says(promise = 8, words = "JOINS that do not FIT at a speed")
    static void promise8_fitsAgainAtAnotherSpeed(Check c) {
        // 1000 grows to 1100 where the other one stays at 1050.
        FastPlane x = Check.with(Check.part("a", 0, "100 cm", 40, 0) + Check.part("b", 105, 0) + "join a b gap 5;");
        c.due("apart at first", x.clash(0), 1);
        c.due("1040", x.clash(10), 1);
        c.due("1048", x.clash(11), 0);
        c.due("1057", x.clash(12), 1);
    }

    // ---- promise 9

    @Says(promise = 9, words = {"The least speed at which a JOIN does not FIT", "NONE if it always does, or there is none"
        + " such."})
    static void promise9_eachEndAndNone(Check c) {
        StringBuilder text = new StringBuilder(Check.part("a", 0, "100 cm", 10, 0) + Check.part("b", 100, 0));
        int[] gaps = {0, 0, 1, 84, 89, 90};
        int[] due = {4, 4, 5, 30, 30, -1};
        for (int gap : gaps) {
            text.append("join a b gap ").append(gap).append(';');
        }
        FastPlane x = Check.with(text.toString());
        for (int join = 0; join < gaps.length; join++) {
            c.due("breaks(" + join + ")", x.breaks(join), due[join]);
        }
        for (int join : new int[] {-1, gaps.length, 15, 16, LOW, HIGH}) {
            c.due("breaks(" + join + ")", x.breaks(join), -1);
        }
        c.due("no joins", Check.with(Check.parts(2)).breaks(0), -1);
        c.due("at speed 0", Check.with(Check.part("a", 1, 0) + Check.part("b", 2, 0) + "join a b gap 9;").breaks(0), 0);
    }

    @Says(promise = 9, words = "The least speed at which a JOIN does not FIT")
    static void promise9_theLastOfSixteen(Check c) {
        String ends = Check.part("a", 1, 0) + Check.part("b", 2, 0) + Check.part("d", 0, "100 cm", 1, 0)
            + Check.part("e", 100, 0);
        FastPlane x = Check.with(ends + "join a b gap 10;".repeat(15) + "join d e gap 8;");
        c.due("the last", x.breaks(15), 30);
        c.due("the one before", x.breaks(14), -1);
        c.due("no more", x.breaks(16), -1);
    }

    // ---- promise 10

    private static void mend(Check c, String text, int part, int length, int fit) {
        FastPlane x = Check.with(text);
        for (int round = 0; round < 2; round++) {
            c.due("mend(0) of " + text, x.mend(0), part);
            c.due("mend(1) of " + text, x.mend(1), length);
            c.due("mend(2) of " + text, x.mend(2), fit);
        }
        for (int what : new int[] {-1, 3, 4, LOW, HIGH}) {
            c.due("mend(" + what + ") of " + text, x.mend(what), -1);
        }
    }

    @Says(promise = 10, words = {"None, if no more FIT than now.", "NONE if there is none, or for another what."})
    static void promise10_nothingToMend(Check c) {
        mend(c, "", -1, -1, -1);
        mend(c, Check.parts(12), -1, -1, -1);
        String ends = Check.part("a", 10, 0) + Check.part("b", 11, 0);
        mend(c, ends + "join a b gap 10;".repeat(16), -1, -1, -1);
        // As many FIT as before, but others.
        mend(c, ends + Check.part("c", 50, 0) + Check.part("d", 51, 0) + "join a b gap 10;join c d gap 10;join a c gap 5;",
            -1, -1, -1);
    }

    @Says(promise = 10, words = {"MEND what 0: the PART, 1: its MILLIMETRES then, 2: how many JOINS FIT then.",
        "by which most JOINS FIT"})
    static void promise10_oneMoreFits(Check c) {
        String ends = Check.part("a", 10, 0) + Check.part("b", 11, 0);
        mend(c, ends + "join a b gap 9;", 0, 101, 1);
        mend(c, ends + "join b a gap 9;", 0, 101, 1);
        mend(c, ends + "join b a gap 0;", 0, 110, 1);
        mend(c, ends + "join b a gap 9;".repeat(16), 0, 101, 16);
        mend(c, ends + "join a b gap 9;join a b gap 8;join a b gap 10;", 0, 102, 3);
        // Those that the PART has no end in count, too.
        mend(c, ends + Check.part("c", 9, 0) + Check.part("d", 9, 0) + "join c d gap 0;join a b gap 9;join c d gap 0;", 0,
            101, 3);
    }

    @Says(promise = 10, words = "by which most JOINS FIT; of like ones the one that is changed least; the least PART; the"
        + " fewer MILLIMETRES.")
    static void promise10_ofLikeOnes(Check c) {
        // Most of all: two by a, though one by b were nearer.
        mend(c, Check.part("a", 10, 0) + Check.part("b", 20, 0) + Check.part("c", 30, 0) + Check.part("d", 31, 0)
            + "join b a gap 90; join c a gap 5;join d a gap 5;", 0, 305, 2);
        // Changed least: c or d by 5, not a or b by 10.
        mend(c, Check.part("a", 10, 0) + Check.part("b", 20, 0) + Check.part("c", 30, 0) + Check.part("d", 40, 0)
            + "join a b gap 90;join c d gap 95;", 2, 305, 1);
        // The least PART: both by 1.
        mend(c, Check.part("a", 10, 0) + Check.part("b", 20, 0) + "join b a gap 99;", 0, 101, 1);
        mend(c, Check.part("c", 50, 0) + Check.part("a", 10, 0) + Check.part("b", 20, 0) + "join b a gap 99;", 1, 101, 1);
        // The fewer MILLIMETRES: b at 101 or at 99.
        mend(c, Check.part("b", 10, 0) + Check.part("a", 20, 0) + Check.part("c", 1, 0)
            + "join b a gap 99;join b c gap 89;", 0, 99, 1);
        mend(c, Check.part("b", 10, 0) + Check.part("a", 20, 0) + Check.part("c", 1, 0)
            + "join b c gap 89;join b a gap 99;", 0, 99, 1);
    }

    @Says(promise = 10, words = {"one PART drawn anew with another number of MILLIMETRES (1 .. 30000)",
        "MEND at speed 0"})
    static void promise10_eachEndOfWhatCanBeDrawn(Check c) {
        String least = Check.part("a", 1, 0);
        String most = Check.part("b", 0, "999 inch", 99, 0);
        mend(c, least + most + "join a b gap 99;", 0, 25374 - 99, 1);
        mend(c, least + most + Check.part("c", 0, "998 inch", 0, 0) + "join a b gap 99;join b c gap 25;", 0, 25275, 2);
        // From 10 less 99 on all FIT, but one need not go below 109.
        mend(c, least + Check.part("d", 50, 0) + "join a d gap 99;", 0, 401, 1);
        mend(c, Check.part("d", 50, 0) + least + "join a d gap 99;", 0, 109, 1);
        // Only 10 itself will do; and 30000 is never called for.
        mend(c, Check.part("d", 50, 0) + least + Check.part("e", 1, 0) + "join a d gap 0;join e d gap 0;", 0, 10, 2);
        mend(c, Check.part("a", 0, "999 inch", 0, 0) + Check.part("b", 0, "999 inch", 0, 0) + Check.part("c", 10, 0)
            + "join a b gap 0;join a c gap 99;join b c gap 99;", 2, 25275, 3);
    }

    @Says(promise = 10, words = "MEND at speed 0")
    static void promise10_growthDoesNotCount(Check c) {
        mend(c, Check.part("a", 0, "100 cm", 99, 0) + Check.part("b", 100, 0) + "join a b gap 0;", -1, -1, -1);
        mend(c, Check.part("a", 0, "100 cm", 99, 0) + Check.part("b", 99, 0) + "join a b gap 0;", 0, 990, 1);
        FastPlane x = Check.with(Check.part("a", 0, "100 cm", 99, 0) + Check.part("b", 99, 0) + "join a b gap 0;");
        c.due("mend", x.mend(1), 990);
        c.due("nothing is changed by asking", x.mm(0, 0), 1000);
        c.due("nothing is changed by asking", x.clash(0), 1);
    }

    @Says(promise = 10, words = "of like ones the one that is changed least")
    static void promise10_ofAllPartsAndLengths(Check c) {
        // By trying every PART and every length.
        int[] inMillimetres = {250, 260, 310, 440, 270};
        int[][] joins = {{0, 1, 5}, {1, 2, 40}, {0, 3, 99}, {2, 4, 30}, {4, 0, 15}, {3, 4, 99}, {1, 4, 3}};
        for (int many = 1; many <= joins.length; many++) {
            StringBuilder text = new StringBuilder();
            for (int part = 0; part < inMillimetres.length; part++) {
                text.append(Check.part(String.valueOf((char) ('a' + part)), inMillimetres[part] / 10, 0));
            }
            for (int join = 0; join < many; join++) {
                text.append("join ").append((char) ('a' + joins[join][0])).append(' ')
                    .append((char) ('a' + joins[join][1])).append(" gap ").append(joins[join][2]).append(';');
            }
            int[] best = bestOf(inMillimetres, joins, many);
            mend(c, text.toString(), best[0], best[1], best[2]);
        }
    }

    private static int[] bestOf(int[] lengths, int[][] joins, int many) {
        int[] best = {-1, -1, -1};
        int most = fitting(lengths, joins, many);
        int change = 0;
        for (int part = 0; part < lengths.length; part++) {
            for (int length = 1; length <= 30000; length++) {
                int[] drawn = lengths.clone();
                drawn[part] = length;
                int fit = fitting(drawn, joins, many);
                int by = Math.abs(length - lengths[part]);
                if (fit > most || best[0] >= 0 && fit == most && by < change) {
                    most = fit;
                    change = by;
                    best = new int[] {part, length, fit};
                }
            }
        }
        return best;
    }

    private static int fitting(int[] lengths, int[][] joins, int many) {
        int fit = 0;
        for (int join = 0; join < many; join++) {
            if (Math.abs(lengths[joins[join][0]] - lengths[joins[join][1]]) <= joins[join][2]) {
                fit++;
            }
        }
        return fit;
    }
}

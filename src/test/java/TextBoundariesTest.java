import java.util.List;

/** Boundary cases of the tape, of THE MACHINE's text, its TOKENS and FAULTS: promises 1 to 4, 6 and 38. */
public final class TextBoundariesTest {
    private static final int LOW = Check.LOW;
    private static final int HIGH = Check.HIGH;
    private static final String A = Check.part("a", 1, 0);
    private static final String AB = A + Check.part("b", 1, 0);
    private static final String JOIN = "join a b gap 0;";
    private static final String MOVES = "moves a b after 0;";
    private static final String TANK = "tank at 0 holds 1;";
    private static final String SIGNS = ";()<>=+-*";
    private static final List<String> OWN_WORDS = List.of(("part by long cm inch grows costs join gap moves after tank at holds row"
        + " share leave fly keep when and or not land cost month over ground hour speed airline shown others price")
        .split(" "));

    public static void main(String[] args) {
        Boundaries.run(TextBoundariesTest.class);
    }

    // ---- promise 1

    @Says(promise = 1, words = {"An empty MACHINE, empty TREATIES.", "THE MACHINE is a text of at most 1,300 bytes"
        + " (empty at first)", "TREATIES are texts of at most 700 bytes in TONGUES 0 .. 2 (empty at first)"})
    static void promise1_allIsEmptyAtFirst(Check c) {
        FastPlane x = new FastPlane();
        for (int what = 0; what <= 12; what++) {
            c.due("about(" + what + ")", x.about(what), 0);
        }
        c.due("mm(0, 0)", x.mm(0, 0), -1);
        c.due("breaks(0)", x.breaks(0), -1);
        for (int what = 0; what <= 2; what++) {
            c.due("mend(" + what + ")", x.mend(what), -1);
        }
        for (int speed = 0; speed <= 30; speed++) {
            c.due("clash(" + speed + ")", x.clash(speed), 0);
        }
        c.due("change(0, 0)", x.change(0, 0), -1);
        c.due("moves(0, 0)", x.moves(0, 0), -1);
        c.due("cost(0, 0)", x.cost(0, 0), 0);
        c.due("cost(999, 0)", x.cost(999, 0), 0);
        c.due("shared(0)", x.shared(0), 0);
        c.due("shared(100)", x.shared(100), 0);
        c.due("maker(0, 0)", x.maker(0, 0), -1);
        c.due("untell(0)", x.untell(0), false);
        c.due("lapse(0, 0, 0, 0)", x.lapse(0, 0, 0, 0), -1);
        c.due("should(30, 30, 0)", x.should(30, 30, 0), -1);
        c.due("machine() of an empty tape", x.machine(), 0);
        c.due("treaty(0) of an empty tape", x.treaty(0), 0);
    }

    @Says(promise = 1, words = {"An empty MACHINE, empty TREATIES.",
        "Not told: share 50, nobody may leave, fly, keep hold."})
    static void promise1_whatIsNotToldInEachTongue(Check c) {
        FastPlane x = Check.with(Check.part("a", 1, 100) + Check.part("b", 1, 3));
        x.change(0, 0);
        x.change(1, 199);
        x.airline(0, 199);
        for (int tongue = 0; tongue <= 2; tongue++) {
            c.due("share is 50, cut", x.pays(0, tongue, 0), 50 + 1);
            c.due("the rest", x.pays(1, tongue, 0), 50 + 2);
            c.due("nobody may leave in 0", x.leave(0, tongue, 0), 0);
            c.due("nobody may leave in 199", x.leave(199, tongue, 0), 0);
            c.due("fly holds", x.soonest(0, 63, tongue, 0, 0, 99), 1442);
            c.due("fly holds at 23", x.soonest(63, 0, tongue, 23, 255, 28), 4228);
            c.due("keep holds", x.hold(198, tongue, 0), 1);
            c.due("none lapses", x.lapse(0, 0, tongue, 0), 0);
            c.due("leave alike", x.unlike(tongue, (tongue + 1) % 3, false), -1);
            c.due("fly alike", x.unlike(tongue, (tongue + 1) % 3, true), -1);
        }
    }

    @Says(promise = 1, words = "NONE = -1`: There is none.")
    static void promise1_theConstant(Check c) {
        c.due("NONE", FastPlane.NONE, -1);
    }

    @Says(promise = 1, words = "An empty MACHINE, empty TREATIES.")
    static void promise1_nothingOfAnotherObject(Check c) {
        FastPlane other = Check.with(AB + JOIN + MOVES + TANK + "row 0 hhhhhhhh;");
        Check.treaty(other, 0, "share 1; leave when 1; fly when 0; keep when 0;");
        other.change(0, 0);
        other.later(9);
        other.bounds(0, 0);
        other.pump(0);
        other.airline(0, 9);
        other.stage(1, 1);
        other.grant(1, 1);
        Check.machine(other, "?");
        Check.put(other, "x");
        FastPlane x = new FastPlane();
        for (int what = 0; what <= 12; what++) {
            c.due("about(" + what + ")", x.about(what), 0);
        }
        c.due("fault(0)", x.fault(0), 0);
        c.due("fault(1)", x.fault(1), -1);
        c.due("its own first fact", x.estimate(0, 0), 0);
        c.due("its own first airline", x.airline(0, 9), 0);
        c.due("keep holds", x.hold(0, 0, 0), 1);
        c.due("fly holds over ground 0", x.soonest(1, 0, 0, 0, 0, 99), 103);
        c.due("its own first stage", x.stage(1, 0), 0);
        c.due("no grant", x.safe(0, 0, 0), 0);
        c.due("the other has its own", other.about(6), 1);
    }

    // ---- promise 2

    @Says(promise = 2, words = "Twenty bytes come behind those on the TAPE, of each number the highest first")
    static void promise2_eachOfTheTwentyBytesAtItsPlace(Check c) {
        for (int at = 0; at < 40; at++) {
            int[] ten = new int[10];
            for (int i = 0; i < 40; i++) {
                ten[i / 4] = ten[i / 4] << 8 | (i == at ? 0xE9 : ' ');
            }
            FastPlane x = new FastPlane();
            c.due("the first twenty", x.feed(ten[0], ten[1], ten[2], ten[3], ten[4]), 20);
            c.due("twenty more", x.feed(ten[5], ten[6], ten[7], ten[8], ten[9]), 40);
            c.due("a byte that is no token at " + at, x.machine(), -1);
            c.due("its place", x.fault(1), at);
        }
    }

    @Says(promise = 2, words = "how many there are; NONE, and nothing comes, if there would be more than 1,300.")
    static void promise2_sixtyFiveFillTheTape(Check c) {
        FastPlane x = new FastPlane();
        for (int i = 1; i <= 65; i++) {
            c.due("feed " + i, x.feed(LOW, HIGH, -1, 0, 1), 20 * i);
        }
        c.due("one more", x.feed(0, 0, 0, 0, 0), -1);
        c.due("as many as before", x.about(8), 1300);
    }

    @Says(promise = 2, words = "NONE, and nothing comes, if there would be more than 1,300.")
    static void promise2_nothingComesAbove1300(Check c) {
        for (int has = 1279; has <= 1300; has++) {
            FastPlane x = new FastPlane();
            Check.put(x, " ".repeat(has));
            boolean fits = has + 20 <= 1300;
            c.due("feed behind " + has, x.feed(0x3f3f3f3f, 0, 0, 0, 0), fits ? has + 20 : -1);
            c.due("bytes then", x.about(8), fits ? has + 20 : has);
            c.due("what is read", x.machine(), fits ? -1 : 0);
            c.due("where the new bytes begin", x.fault(1), fits ? has : -1);
        }
    }

    @Says(promise = 2, words = "Twenty bytes come behind those on the TAPE")
    static void promise2_behindWhatEndLeaves(Check c) {
        FastPlane x = new FastPlane();
        Check.put(x, "row 0 aaaaaaaa;row 1 hhhhhhhh;");
        x.end(15);
        c.due("in place of what was cut", x.feed(0x726f7720, 0x32206262, 0x62626262, 0x62623b20, 0x20202020), 35);
        c.due("two lines", x.machine(), 2);
        c.due("row 1 was cut", x.soonest(0, 8, 0, 0, 128, 3), 103);
        c.due("row 2 stands in its place", x.soonest(24, 16, 0, 0, 2, 3), 302);
    }

    // ---- promise 3

    @Says(promise = 3, words = {"The TAPE has its first n bytes: n",
        "NONE, doing nothing, if it has not so many, or n is below 0."})
    static void promise3_fromNoneToAll(Check c) {
        FastPlane x = new FastPlane();
        c.due("end(0) of an empty tape", x.end(0), 0);
        c.due("end(1) of an empty tape", x.end(1), -1);
        c.due("end(-1) of an empty tape", x.end(-1), -1);
        Check.put(x, "row 0 aaaaaaaa;?");
        for (int n : new int[] {17, 20, 1300, 1301, HIGH, -1, LOW}) {
            c.due("end(" + n + ") of 16", x.end(n), -1);
            c.due("bytes", x.about(8), 16);
        }
        c.due("end(16) of 16", x.end(16), 16);
        c.due("end(15) of 16", x.end(15), 15);
        c.due("end(16) of 15", x.end(16), -1);
        c.due("the first 15 are read", x.machine(), 1);
        c.due("end(1) behind reading", x.end(1), -1);
        c.due("end(0) behind reading", x.end(0), 0);
    }

    @Says(promise = 3, words = "The TAPE has its first n bytes: n")
    static void promise3_aFullTape(Check c) {
        FastPlane x = new FastPlane();
        Check.put(x, " ".repeat(1299) + "?");
        c.due("end(1301)", x.end(1301), -1);
        c.due("end(1300)", x.end(1300), 1300);
        c.due("end(1299)", x.end(1299), 1299);
        c.due("the last byte is gone", x.machine(), 0);
        Check.put(x, "?");
        c.due("end(0)", x.end(0), 0);
        c.due("bytes", x.about(8), 0);
        c.due("nothing is read", x.machine(), 0);
    }

    // ---- promise 4: the text as a whole

    @Says(promise = 4, words = {"The TAPE (empty then) is THE MACHINE", "how many lines", "machine = {line}"})
    static void promise4_fromNoLineToAll(Check c) {
        c.takesMachine("", 0);
        c.takesMachine(" ", 0);
        c.takesMachine("\n", 0);
        c.takesMachine(" ".repeat(1300), 0);
        c.takesMachine("\n".repeat(1299) + " ", 0);
        c.takesMachine(TANK, 1);
        c.takesMachine(AB, 2);
        String all = Check.parts(12) + JOIN.repeat(16) + MOVES.repeat(16) + TANK.repeat(3);
        for (int row = 0; row < 8; row++) {
            all += "row " + row + " aaaaaaaa;";
        }
        FastPlane x = c.takesMachine(all, 55);
        c.due("parts", x.about(0), 12);
        c.due("joins", x.about(1), 16);
        c.due("moves", x.about(2), 16);
        c.due("tanks", x.about(3), 3);
        c.due("bytes", x.about(8), 0);
    }

    @Says(promise = 4, words = "THE MACHINE is a text of at most 1,300 bytes")
    static void promise4_aTextOf1300Bytes(Check c) {
        String text = " ".repeat(1300 - TANK.length()) + TANK;
        FastPlane x = c.takesMachine(text, 1);
        c.due("its last line counts", x.about(3), 1);
        c.refusesMachine(" ".repeat(1299), "?", 1);
        c.refusesMachine(" ".repeat(1299), ";", 2);
        c.refusesMachineAt(" ".repeat(1300 - TANK.length()) + "tank at 0 holds 10", 2, 1300);
        c.refusesMachine("", "a".repeat(1300), 1);
        c.refusesMachine("", "1".repeat(1300), 1);
        c.refusesMachine("", ";".repeat(1300), 2);
    }

    @Says(promise = 4, words = {"The TAPE (empty then) is THE MACHINE (FACTS and the FLIGHT are none then)",
        "The FLIGHT has no STEPS"})
    static void promise4_factsAndFlightAreNoneThen(Check c) {
        for (String text : new String[] {"", AB + TANK}) {
            FastPlane x = Check.with(AB + TANK);
            x.change(0, 5);
            x.show(0, 4);
            x.later(3);
            x.bounds(0, 99);
            Check.treaty(x, 0, "keep when shown;");
            x.airline(0, 9);
            c.due("shown", x.hold(0, 0, 3), 1);
            Check.put(x, text);
            x.machine();
            c.due("no bytes", x.about(8), 0);
            c.due("no facts", x.about(4), 0);
            c.due("no steps", x.about(5), 0);
            c.due("no plan", x.plan(1, 0, 0), -1);
            c.due("no fact to untell", x.untell(0), false);
            c.due("nothing moves", x.cost(5, 3), 0);
            c.due("nothing is shown", x.hold(0, 0, 3), 0);
            c.due("nothing lands", x.land(), 0);
            c.due("the first fact", x.estimate(0, 1), 0);
            c.due("the first step", x.bounds(0, 99), 1);
        }
    }

    @Says(promise = 4, words = "The TAPE (empty then) is THE MACHINE (FACTS and the FLIGHT are none then)")
    static void promise4_whatIsNotOfTheMachineStays(Check c) {
        FastPlane x = Check.with(AB + TANK);
        x.later(7);
        x.pump(0);
        x.airline(5, 9);
        x.stage(4, 5);
        x.grant(1, 2);
        Check.treaty(x, 2, "share 1;leave when 1;");
        Check.treaty(x, 1, "keep when shown;");
        Check.machine(x, "tank at 0 holds 9; tank at 10 holds 9;");
        c.due("the time", x.about(7), 7);
        c.due("airlines", x.hold(8, 0, 0), 1);
        c.due("stages and grant: as it is", x.safe(0, 0, 0), 1);
        c.due("stages and grant: one veto", x.safe(1, 2, 1), 0);
        c.due("stages and grant: one veto", x.safe(2, 2, 1), 1);
        c.due("treaties", x.about(12), 2);
        c.due("treaties", x.leave(0, 2, 0), 1);
        x.bounds(4, 4);
        c.due("pump", x.plan(6, 0, 0), -1);
        c.due("told at the time that goes on", x.show(0, 1), 0);
        c.due("known at it", x.hold(0, 1, 7), 1);
        c.due("not known before", x.hold(0, 1, 6), 0);
    }

    @Says(promise = 4, words = {"The TAPE (empty then) is THE MACHINE", "row N WORD"})
    static void promise4_nothingIsLeftOfTheMachineBefore(Check c) {
        FastPlane x = Check.with(Check.parts(12) + JOIN + MOVES + "tank at 9 holds 9;".repeat(3)
            + "row 0 hhhhhhhh;row 7 hhhhhhhh;");
        x.shared(100);
        Check.machine(x, "row 0 aaaaaaaa;");
        for (int what = 0; what <= 3; what++) {
            c.due("about(" + what + ")", x.about(what), 0);
        }
        c.due("row 0", x.soonest(1, 0, 0, 0, 128, 99), 103);
        c.due("row 7 is not told", x.soonest(62, 63, 0, 0, 128, 99), 103);
        x.bounds(0, 99);
        c.due("no tank 0", x.plan(1, 0, 0), -1);
        c.due("no tank 1", x.plan(0, 1, 0), -1);
        c.due("no tank 2", x.plan(0, 0, 1), -1);
        c.due("no part", x.maker(0, 100), -1);
        Check.machine(x, A + TANK);
        c.due("one part", x.mm(0, 0), 10);
        c.due("and no second", x.mm(1, 0), -1);
        c.due("no joins", x.about(1), 0);
        c.due("no joins", x.clash(0), 0);
        c.due("no moves", x.about(2), 0);
        c.due("row 0 is not told", x.soonest(1, 0, 0, 0, 128, 99), 103);
        c.due("row 7 is not told", x.soonest(62, 63, 0, 0, 128, 99), 103);
        x.bounds(0, 99);
        c.due("one tank", x.plan(1, 0, 0), 0);
        c.due("and no second", x.plan(1, 1, 0), -1);
        Check.machine(x, "row 0 hhhhhhhh;" + Check.part("a", 2, 5));
        c.due("told in the machine before, not in this one", x.about(0), 1);
        c.due("row 0 again", x.soonest(1, 0, 0, 0, 128, 99), 302);
        c.due("the new length", x.mm(0, 0), 20);
    }

    @Says(promise = 4, words = {"The TAPE (empty then) is THE MACHINE", "NONE: a FAULT"})
    static void promise4_nothingIsLeftOfATextWithAFault(Check c) {
        FastPlane x = new FastPlane();
        for (int round = 0; round < 3; round++) {
            Check.machine(x, Check.parts(12) + JOIN.repeat(3) + MOVES.repeat(3) + TANK.repeat(3)
                + "row 0 hhhhhhhh;row 7 hhhhhhhh;?");
            c.due("a fault", x.fault(0), 1);
            c.due("a text of one line", Check.machine(x, "row " + (round + 1) + " aaaaaaaa;"), 1);
            for (int what = 0; what <= 3; what++) {
                c.due("about(" + what + ")", x.about(what), 0);
            }
            c.due("row 0", x.soonest(1, 0, 0, 0, 128, 99), 103);
            c.due("row 7", x.soonest(62, 63, 0, 0, 128, 99), 103);
            c.due("rows may be told", Check.machine(x, "row 7 aaaaaaaa;row 0 aaaaaaaa;" + Check.parts(2) + JOIN), 5);
        }
    }

    @Says(promise = 4, words = "NONE: a FAULT (the TAPE is empty then, too; all else stays).")
    static void promise4_atAFaultAllElseStays(Check c) {
        FastPlane x = Check.with(AB + JOIN + MOVES + TANK + "row 3 hhhhhhhh;");
        x.change(0, 5);
        x.bounds(0, 99);
        String[] faulty = {"?", "tank", A + A, "tank at 5 holds 99;", JOIN, AB + "join a a gap 1;",
            Check.parts(12) + TANK + "row 0 bbbbbbbb;row 3 aaaaaaaa;?"};
        for (String text : faulty) {
            c.due("machine(" + text + ")", Check.machine(x, text), -1);
            c.due("the tape is empty", x.about(8), 0);
            c.due("parts", x.about(0), 2);
            c.due("joins", x.about(1), 1);
            c.due("moves", x.about(2), 1);
            c.due("tanks", x.about(3), 1);
            c.due("facts", x.about(4), 1);
            c.due("steps", x.about(5), 1);
            c.due("what moves", x.moves(1, 0), 5);
            c.due("the flight", x.plan(1, 0, 0), 0);
            c.due("row 0", x.soonest(1, 0, 0, 0, 2, 99), 103);
            c.due("row 3", x.soonest(25, 24, 0, 0, 128, 99), 302);
        }
    }

    // ---- promise 4: tokens

    @Says(promise = 4, words = {"TOKENS: words (a .. z, 8 at most), N (1 to 4 digits), signs ; ( ) < > = + - *",
        "what is none of these", "1 at its first byte", "1 no TOKEN"})
    static void promise4_eachByteAlone(Check c) {
        for (int sign = 0; sign <= 255; sign++) {
            String text = String.valueOf((char) sign);
            if (sign == 32 || sign == 10) {
                c.takesMachine(text, 0);
            } else {
                c.refusesMachine(" ", text, isToken(sign) ? 2 : 1);
            }
        }
    }

    private static boolean isToken(int sign) {
        return sign >= 'a' && sign <= 'z' || sign >= '0' && sign <= '9' || SIGNS.indexOf(sign) >= 0;
    }

    @Says(promise = 4, words = "blanks (32, 10) part them or not")
    static void promise4_eachByteBetweenTwoTokens(Check c) {
        for (int sign = 0; sign <= 255; sign++) {
            // Behind "row" a letter makes another word, a digit the number of the row.
            if (sign == 32 || sign == 10) {
                c.takesMachine("row" + (char) sign + "0 aaaaaaaa;", 1);
            } else if (sign >= 'a' && sign <= 'z') {
                c.refusesMachine("", "row" + (char) sign + "0 aaaaaaaa;", 2);
            } else if (sign == '0') {
                c.takesMachine("row00 aaaaaaaa;", 1);
            } else if (sign >= '1' && sign <= '9') {
                c.refusesMachine("row", (char) sign + "0 aaaaaaaa;", 4);
            } else {
                c.refusesMachine("row", (char) sign + "0 aaaaaaaa;", isToken(sign) ? 2 : 1);
            }
        }
    }

    @Says(promise = 4, words = {"no letter directly behind an N", "an N with a letter behind it: 1 at its first byte"})
    static void promise4_eachByteBehindAnN(Check c) {
        for (int sign = 0; sign <= 255; sign++) {
            String row = "0" + (char) sign + " aaaaaaaa;";
            if (sign == 32 || sign == 10 || sign >= '0' && sign <= '7') {
                c.takesMachine("row " + row, 1);
            } else if (sign == '8' || sign == '9') {
                c.refusesMachine("row ", row, 4);
            } else if (sign >= 'a' && sign <= 'z') {
                c.refusesMachine("row ", row, 1);
            } else {
                c.refusesMachine("row 0", row.substring(1), isToken(sign) ? 2 : 1);
            }
        }
    }

    @Says(promise = 4, words = "each is as long as can be")
    static void promise4_eachTokenIsAsLongAsCanBe(Check c) {
        c.refusesMachine("", "parta by 0 long 1 cm grows 0 costs 0;", 2);
        c.refusesMachine("tank at ", "100 holds 1;", 4);
        c.takesMachine("tank at 10 holds 1;", 1);
        c.refusesMachine("tank at 1 ", "0 holds 1;", 2);
        c.refusesMachine("part a ", "byby 0", 2);
        c.refusesMachine("row 0 ", "aaaaaaaaa;", 1);
        c.takesMachine("row0\naaaaaaaa;row1 bbbbbbbb;", 2);
        c.takesMachine("part ab by 0 long 1 cm grows 0 costs 0;part a by 0 long 1 cm grows 0 costs 0;", 2);
        c.refusesMachine("part a ", "b", 2);
    }

    @Says(promise = 4, words = {"words (a .. z, 8 at most)", "a longer word"})
    static void promise4_wordsOfEightLettersAndOfNine(Check c) {
        for (int letters = 1; letters <= 8; letters++) {
            c.takesMachine(Check.part("z".repeat(letters), 1, 0), 1);
        }
        for (int letters = 9; letters <= 17; letters++) {
            c.refusesMachine("part ", "z".repeat(letters) + " by 0", 1);
            c.refusesMachine("", "z".repeat(letters), 1);
        }
        c.refusesMachine("part ", "z".repeat(40) + " by 0", 1);
        c.refusesMachine("", "partpartp a by 0", 1);
        c.takesMachine(Check.part("abcdefgh", 1, 0) + Check.part("abcdefgi", 1, 0) + Check.part("abcdefg", 1, 0)
            + Check.part("bbcdefgh", 1, 0) + Check.part("bcdefgh", 1, 0), 5);
    }

    @Says(promise = 4, words = {"N (1 to 4 digits)", "more digits"})
    static void promise4_numbersOfFourDigitsAndOfFive(Check c) {
        for (int digits = 1; digits <= 4; digits++) {
            c.takesMachine("row " + "0".repeat(digits - 1) + "7 aaaaaaaa;", 1);
            c.refusesMachine("row ", "9".repeat(digits) + " aaaaaaaa;", 4);
        }
        for (int digits = 5; digits <= 13; digits++) {
            c.refusesMachine("row ", "0".repeat(digits) + " aaaaaaaa;", 1);
            c.refusesMachine("row ", "9".repeat(digits) + " aaaaaaaa;", 1);
        }
        c.refusesMachine("row ", "00007a aaaaaaaa;", 1);
        c.refusesMachine("row ", "7a aaaaaaaa;", 1);
        c.refusesMachine("row ", "0007z aaaaaaaa;", 1);
    }

    @Says(promise = 4, words = {"Words that stand for themselves here and in TREATIES", "are no NAMES."})
    static void promise4_wordsThatAreNoNames(Check c) {
        c.due("words that stand for themselves", OWN_WORDS.size(), 34);
        for (String word : OWN_WORDS) {
            c.refusesMachine("part ", word + " by 0 long 1 cm grows 0 costs 0;", 2);
            c.refusesMachine(A + "join ", word + " a gap 0;", 2);
            c.refusesMachine(A + "join a ", word + " gap 0;", 2);
            c.refusesMachine(A + "moves ", word + " a after 0;", 2);
            c.refusesMachine(A + "moves a ", word + " after 0;", 2);
            if (word.length() < 8) {
                c.takesMachine(Check.part(word + "x", 1, 0), 1);
                c.takesMachine(Check.part("x" + word, 1, 0), 1);
            }
            String shorter = word.substring(0, word.length() - 1);
            if (!OWN_WORDS.contains(shorter)) {
                c.takesMachine(Check.part(shorter, 1, 0), 1);
            }
        }
    }

    // ---- promise 4: lines

    private static final String[][] LINES = {"part NEW by N long N cm grows N costs N ;".split(" "),
        "join OLD OLDER gap N ;".split(" "), "moves OLD OLDER after N ;".split(" "), "tank at N holds N ;".split(" "),
        "row N WORD ;".split(" ")};

    /** A token that may stand at such a place. */
    private static String right(String place) {
        switch (place) {
            case "NEW": return "c";
            case "OLD": return "a";
            case "OLDER": return "b";
            case "N": return "1";
            case "WORD": return "aaaaaaaa";
            default: return place;
        }
    }

    /** The fault of a token at such a place, 0 if it may stand there. */
    private static int faultOf(String place, String token) {
        if (token.equals("?") || token.equals("wwwwwwwww") || token.equals("00000") || token.equals("1x")) {
            return 1;
        }
        boolean number = token.charAt(0) <= '9' && token.charAt(0) >= '0';
        boolean word = token.charAt(0) >= 'a' && token.charAt(0) <= 'z';
        boolean name = word && !OWN_WORDS.contains(token);
        switch (place) {
            case "NEW": return !name ? 2 : token.equals("a") || token.equals("b") ? 3 : 0;
            case "OLD": return !name ? 2 : token.equals("a") || token.equals("b") ? 0 : 5;
            case "OLDER": return !name ? 2 : token.equals("a") ? 6 : token.equals("b") ? 0 : 5;
            case "N": return !number ? 2 : token.equals("9999") ? 4 : 0;
            case "WORD": return !word ? 2 : token.equals("hhhhhhhh") ? 0 : 4;
            case "cm": return token.equals("cm") || token.equals("inch") ? 0 : 2;
            default: return token.equals(place) ? 0 : 2;
        }
    }

    @Says(promise = 4, words = {"line = part NAME by N long N (cm | inch) grows N costs N ; | join NAME NAME gap N ;"
        + " | moves NAME NAME after N ; | tank at N holds N ; | row N WORD ;.", "2 one that can't stand there"})
    static void promise4_eachTokenOfEachLine(Check c) {
        String[] tokens = ("? wwwwwwwww 00000 1x ; ( ) < > = + - * w a b 1 9999 hhhhhhhh part by long cm inch grows costs"
            + " join gap moves after tank at holds row share keep price").split(" ");
        for (String[] line : LINES) {
            StringBuilder before = new StringBuilder(AB);
            for (int i = 0; i < line.length; i++) {
                for (String token : tokens) {
                    int fault = faultOf(line[i], token);
                    boolean anotherLine = i == 0 && List.of("part", "join", "moves", "tank", "row").contains(token);
                    if (fault > 0 && !anotherLine) {
                        c.refusesMachine(before.toString(), token + " ", fault);
                    }
                }
                before.append(right(line[i])).append(' ');
            }
            c.takesMachine(before.toString(), 3);
        }
        c.takesMachine(AB + "part c by 0 long 1 inch grows 0 costs 0;", 3);
    }

    @Says(promise = 4, words = "the end: the text's length")
    static void promise4_theEndWhereALineGoesOn(Check c) {
        for (String[] line : LINES) {
            StringBuilder before = new StringBuilder(AB);
            for (int i = 0; i < line.length - 1; i++) {
                before.append(right(line[i]));
                c.refusesMachineAt(before.toString(), 2, before.length());
                c.refusesMachineAt(before + "\n  ", 2, before.length() + 3);
                before.append(' ');
            }
        }
    }

    @Says(promise = 4, words = {"At most 12 PARTS", "a 13th PART", "at the line's first word"})
    static void promise4_theThirteenthPart(Check c) {
        c.due("twelve", c.takesMachine(Check.parts(12), 12).about(0), 12);
        String thirteenth = Check.part("m", 1, 0);
        c.refusesMachine(Check.parts(12), thirteenth, 2);
        c.refusesMachine(Check.parts(12) + "\n ", thirteenth, 2);
        c.refusesMachine(Check.parts(12), "part", 2);
        c.refusesMachine(Check.parts(12), "part ?", 2);
        c.refusesMachine(Check.parts(12), "part a by 9", 2);
        c.refusesMachine(Check.parts(12), "partx", 2);
        c.refusesMachine(Check.parts(12), "part1", 2);
        c.takesMachine(Check.parts(12) + JOIN + MOVES + TANK + "row 0 aaaaaaaa;", 16);
    }

    @Says(promise = 4, words = {"16 JOINS", "17th JOIN", "at the line's first word"})
    static void promise4_theSeventeenthJoin(Check c) {
        c.due("sixteen", c.takesMachine(AB + JOIN.repeat(16), 18).about(1), 16);
        c.refusesMachine(AB + JOIN.repeat(16), JOIN, 2);
        c.refusesMachine(AB + JOIN.repeat(16) + "\n", "join ? ?", 2);
        c.refusesMachine(AB + JOIN.repeat(16), "join x x gap 100;", 2);
        c.takesMachine(AB + JOIN.repeat(16) + Check.part("c", 1, 0) + MOVES.repeat(16) + TANK, 36);
    }

    @Says(promise = 4, words = {"16 MOVES", "17th MOVES", "at the line's first word"})
    static void promise4_theSeventeenthMoves(Check c) {
        c.due("sixteen", c.takesMachine(AB + MOVES.repeat(16), 18).about(2), 16);
        c.refusesMachine(AB + MOVES.repeat(16), MOVES, 2);
        c.refusesMachine(AB + MOVES.repeat(16) + "\n", "moves ? ?", 2);
        c.refusesMachine(AB + MOVES.repeat(16), "moves x x after 25;", 2);
        c.takesMachine(AB + MOVES.repeat(16) + Check.part("c", 1, 0) + JOIN.repeat(16) + TANK, 36);
    }

    @Says(promise = 4, words = {"3 TANKS", "4th TANK: at the line's first word"})
    static void promise4_theFourthTank(Check c) {
        for (int tanks = 0; tanks <= 3; tanks++) {
            c.due("tanks", c.takesMachine(TANK.repeat(tanks), tanks).about(3), tanks);
        }
        c.refusesMachine(TANK.repeat(3), TANK, 2);
        c.refusesMachine(TANK.repeat(3) + " \n ", "tank ?", 2);
        c.refusesMachine(TANK.repeat(3), "tank at 100", 2);
        c.takesMachine(TANK.repeat(3) + A + "row 0 aaaaaaaa;", 5);
    }

    /** From low to high it is taken; beside them it is a number that can't be. */
    private static void numbers(Check c, String before, String behind, int low, int high) {
        for (int number : new int[] {low, low + 1, (low + high) / 2, high - 1, high}) {
            c.due(before + number + behind, Check.machine(new FastPlane(), before + number + behind) > 0, number <= high);
        }
        if (high < 1000) {
            c.due("0" + high, Check.machine(new FastPlane(), before + "0" + high + behind) > 0, true);
        }
        for (int number : new int[] {low - 1, high + 1, high + 2, 10 * high + 10, 9999}) {
            if (number >= 0 && number <= 9999) {
                c.refusesMachine(before, number + behind, 4);
            }
        }
    }

    @Says(promise = 4, words = "(by land 0 or 1; long 1 .. 999; grows 0 .. 99; costs 0 .. 999)")
    static void promise4_numbersOfAPart(Check c) {
        numbers(c, "part a by ", " long 1 cm grows 0 costs 0;", 0, 1);
        numbers(c, "part a by 0 long ", " cm grows 0 costs 0;", 1, 999);
        numbers(c, "part a by 0 long ", " inch grows 0 costs 0;", 1, 999);
        numbers(c, "part a by 0 long 1 cm grows ", " costs 0;", 0, 99);
        numbers(c, "part a by 0 long 1 cm grows 0 costs ", ";", 0, 999);
    }

    @Says(promise = 4, words = {"16 JOINS (gap 0 .. 99)", "16 MOVES (after 0 .. 24 months)",
        "3 TANKS (at 0 .. 99; holds 1 .. 15)", "each row 0 .. 7 of the map once", "4 a number"})
    static void promise4_numbersOfOtherLines(Check c) {
        numbers(c, AB + "join a b gap ", ";", 0, 99);
        numbers(c, AB + "moves a b after ", ";", 0, 24);
        numbers(c, "tank at ", " holds 1;", 0, 99);
        numbers(c, "tank at 0 holds ", ";", 1, 15);
        numbers(c, "row ", " aaaaaaaa;", 0, 7);
    }

    @Says(promise = 4, words = {"a WORD of eight letters a .. h", "a WORD of a row, that can't be"})
    static void promise4_theWordOfARow(Check c) {
        for (int letters = 1; letters <= 7; letters++) {
            c.refusesMachine("row 0 ", "h".repeat(letters) + ";", 4);
        }
        c.takesMachine("row 0 hhhhhhhh;", 1);
        c.refusesMachine("row 0 ", "hhhhhhhhh;", 1);
        for (int x = 0; x < 8; x++) {
            for (char letter = 'a'; letter <= 'z'; letter++) {
                String word = "aaaaaaa".substring(0, x) + letter + "aaaaaaa".substring(x);
                if (letter <= 'h') {
                    c.takesMachine("row 7 " + word + ";", 1);
                } else {
                    c.refusesMachine("row 7 ", word + ";", 4);
                }
            }
        }
        for (String word : OWN_WORDS) {
            c.refusesMachine("row 0 ", word + ";", 4);
        }
    }

    @Says(promise = 4, words = {"each row 0 .. 7 of the map once", "a row (at its N), told already"})
    static void promise4_aRowToldAlready(Check c) {
        for (int row = 0; row < 8; row++) {
            String told = "row " + row + " aaaaaaaa;";
            c.refusesMachine(told + "row ", row + " aaaaaaaa;", 3);
            c.refusesMachine(told + "row ", "000" + row + " bbbbbbbb;", 3);
            c.refusesMachine(told + "row ", row + " abc;", 3);
            c.refusesMachine(told + "row ", row + "", 3);
            c.refusesMachine("row " + (row + 1) % 8 + " hhhhhhhh;" + told + "row ", row + " ?", 3);
            c.takesMachine(told + "row " + (row + 1) % 8 + " aaaaaaaa;row " + (row + 7) % 8 + " bbbbbbbb;", 3);
        }
        String all = "";
        for (int row = 0; row < 8; row++) {
            all += "row " + (5 * row + 3) % 8 + " aaaaaaaa;";
        }
        c.takesMachine(all, 8);
        for (int row = 0; row < 8; row++) {
            c.refusesMachine(all + "row ", row + " aaaaaaaa;", 3);
        }
        c.refusesMachine(all + "row ", "8 aaaaaaaa;", 4);
        c.refusesMachine("row 0 aaaaaaaa;row ", "8 aaaaaaaa;", 4);
        c.refusesMachine("row 7 aaaaaaaa;row ", "39 aaaaaaaa;", 4);
    }

    @Says(promise = 4, words = {"3 a NAME", "told already"})
    static void promise4_aNameToldAlready(Check c) {
        c.refusesMachine(A + "part ", "a by 0 long 1 cm grows 0 costs 0;", 3);
        c.refusesMachine(A + "part ", "a ?", 3);
        c.refusesMachine(AB + "part ", "b by 0 long 1 cm grows 0 costs 0;", 3);
        c.refusesMachine(Check.parts(11) + "part ", "k by 0 long 1 cm grows 0 costs 0;", 3);
        c.refusesMachine(Check.parts(11) + "part ", "a by 0 long 1 cm grows 0 costs 0;", 3);
        c.takesMachine(Check.parts(11) + Check.part("aa", 1, 0), 12);
    }

    @Says(promise = 4, words = "5 a NAME that no PART has (that was told ahead)")
    static void promise4_aNameThatNoPartHas(Check c) {
        for (String[] kind : new String[][] {{"join ", " gap 0;"}, {"moves ", " after 0;"}}) {
            c.refusesMachine(kind[0], "a b" + kind[1], 5);
            c.refusesMachine(A + kind[0], "b a" + kind[1] + Check.part("b", 1, 0), 5);
            c.refusesMachine(A + kind[0] + "a ", "b" + kind[1] + Check.part("b", 1, 0), 5);
            c.refusesMachine(A + kind[0], "x x" + kind[1], 5);
            c.refusesMachine(A + kind[0] + "a ", "aa" + kind[1], 5);
            c.takesMachine(AB + kind[0] + "b a" + kind[1], 3);
            c.takesMachine(Check.parts(12) + kind[0] + "l a" + kind[1] + kind[0] + "a l" + kind[1], 14);
            c.refusesMachine(Check.parts(12) + kind[0] + "l ", "m" + kind[1], 5);
        }
    }

    @Says(promise = 4, words = "6 a second NAME like the first")
    static void promise4_aSecondNameLikeTheFirst(Check c) {
        for (String[] kind : new String[][] {{"join ", " gap 0;"}, {"moves ", " after 0;"}}) {
            c.refusesMachine(A + kind[0] + "a ", "a" + kind[1], 6);
            c.refusesMachine(AB + kind[0] + "b ", "b" + kind[1], 6);
            c.refusesMachine(Check.parts(12) + kind[0] + "l\n", "l ?", 6);
            c.takesMachine(AB + kind[0] + "a b" + kind[1] + kind[0] + "a b" + kind[1] + kind[0] + "b a" + kind[1], 5);
        }
    }

    @Says(promise = 4, words = "FAULTS, the first by its place (bytes from 0; the end: the text's length)")
    static void promise4_theFirstFaultByItsPlace(Check c) {
        c.refusesMachine("", "; ?", 2);
        c.refusesMachine("", "? ;", 1);
        c.refusesMachine("part ", "by ?", 2);
        c.refusesMachine("part a by ", "2 long 0 ?", 4);
        c.refusesMachine("part a by 0 long ", "0 ?", 4);
        c.refusesMachine("part a by 0 ", "? long 0", 1);
        c.refusesMachine(A + "part ", "a by 2", 3);
        c.refusesMachine(A + "join ", "b a gap 100;", 5);
        c.refusesMachine(A + "join a ", "a gap 100;", 6);
        c.refusesMachine("row ", "9 zzz;", 4);
        c.refusesMachine("row 0 ", "zzz ?", 4);
        c.refusesMachine(A, "x" + A, 2);
        c.refusesMachine("tank at 0 holds ", "16 16", 4);
    }

    @Says(promise = 4, words = "at one place the least")
    static void promise4_theLeastFaultAtOnePlace(Check c) {
        // What is no TOKEN can't stand there, can't be and is no NAME of a PART, either.
        c.refusesMachine("tank at ", "10000 holds 1;", 1);
        c.refusesMachine("tank at ", "100x holds 1;", 1);
        c.refusesMachine("row 0 ", "zzzzzzzzz;", 1);
        c.refusesMachine(A + "join ", "zzzzzzzzz a gap 0;", 1);
        c.refusesMachine(A + "part ", "aaaaaaaaa by 0", 1);
        c.refusesMachine("", "?", 1);
        // A word that stands for itself is a NAME that no PART has, too.
        c.refusesMachine(A + "join ", "gap a gap 0;", 2);
        c.refusesMachine("part a ", "1000 0", 2);
    }

    // ---- promise 6

    @Says(promise = 6, words = {"its FAULT (0: without; ahead of any, too)", "its place (NONE)",
        "NONE for another what."})
    static void promise6_aheadOfAnyAndWithout(Check c) {
        FastPlane x = new FastPlane();
        for (int round = 0; round < 3; round++) {
            c.due("fault(0)", x.fault(0), 0);
            c.due("fault(1)", x.fault(1), -1);
            for (int what : new int[] {-1, 2, 3, 10, LOW, HIGH}) {
                c.due("fault(" + what + ")", x.fault(what), -1);
            }
            Check.put(x, "?");
            c.due("a fault", round == 0 ? x.machine() : x.treaty(2), -1);
            c.due("fault(0)", x.fault(0), 1);
            c.due("fault(1)", x.fault(1), 0);
            for (int what : new int[] {-1, 2, 3, 10, LOW, HIGH}) {
                c.due("fault(" + what + ") of one", x.fault(what), -1);
            }
            c.due("none", round == 0 ? x.treaty(0) : x.machine(), 0);
        }
    }

    @Says(promise = 6, words = "Of the latest of both that was not -2")
    static void promise6_ofTheLatestThatWasNotMinusTwo(Check c) {
        FastPlane x = new FastPlane();
        Check.put(x, " ?");
        c.due("-2 ahead of any", x.treaty(3), -2);
        c.due("none yet", x.fault(0), 0);
        c.due("none yet", x.fault(1), -1);
        c.due("a machine", x.machine(), -1);
        c.due("its fault", x.fault(0), 1);
        c.due("its place", x.fault(1), 1);
        Check.put(x, "   share 1;");
        c.due("-2", x.treaty(-1), -2);
        c.due("still the machine's", x.fault(1), 1);
        x.end(3);
        Check.put(x, "leave 1;");
        c.due("a treaty", x.treaty(0), -1);
        c.due("its fault", x.fault(0), 2);
        c.due("its place", x.fault(1), 9);
        Check.put(x, " ".repeat(701));
        c.due("-2", x.treaty(0), -2);
        c.due("still the treaty's", x.fault(0), 2);
        c.due("still the treaty's", x.fault(1), 9);
        c.due("a machine", x.machine(), 0);
        c.due("without", x.fault(0), 0);
        c.due("without", x.fault(1), -1);
    }

    @Says(promise = 6, words = "its FAULT")
    static void promise6_eachFault(Check c) {
        c.refusesMachine(" ", "?", 1);
        c.refusesMachine(" ", ";", 2);
        c.refusesMachine(A + "part ", "a", 3);
        c.refusesMachine("row ", "8", 4);
        c.refusesMachine("join ", "a", 5);
        c.refusesMachine(A + "join a ", "a", 6);
        c.refusesTreaty("", "?", 1);
        c.refusesTreaty("", ";", 2);
        c.refusesTreaty("share ", "over;", 7);
    }

    // ---- promise 38

    @Says(promise = 38, words = {"What 0: PARTS, 1: JOINS, 2: MOVES, 3: TANKS, 4: FACTS, 5: STEPS, 6: AIRLINES, 7: the"
        + " TIME, 8: bytes on the TAPE, 9: STAGES, 10 + t: lines of TONGUE t.", "NONE for another what."})
    static void promise38_eachWhatAndOthers(Check c) {
        FastPlane x = Check.with(Check.parts(3) + JOIN.repeat(4) + MOVES.repeat(5) + TANK.repeat(2) + "row 0 aaaaaaaa;");
        for (int i = 0; i < 6; i++) {
            x.show(0, 1);
        }
        x.untell(5);
        for (int i = 0; i < 7; i++) {
            x.bounds(0, 0);
            x.airline(0, 0);
            x.stage(0, 0);
        }
        x.airline(0, 0);
        x.later(1000);
        Check.treaty(x, 0, "keep when 1;");
        Check.treaty(x, 1, "keep when 1;share 1;");
        Check.treaty(x, 2, "keep when 1;share 1;leave when 1;fly when 1;");
        Check.put(x, "x");
        int[] want = {3, 4, 5, 2, 6, 7, 8, 1000, 1, 7, 1, 2, 4};
        for (int what = 0; what < want.length; what++) {
            c.due("about(" + what + ")", x.about(what), want[what]);
        }
        for (int what : new int[] {-1, -2, 13, 14, 100, 1000, LOW, HIGH}) {
            c.due("about(" + what + ")", x.about(what), -1);
        }
    }

    @Says(promise = 38, words = "What 0: PARTS, 1: JOINS, 2: MOVES, 3: TANKS, 4: FACTS, 5: STEPS, 6: AIRLINES")
    static void promise38_whenAllIsFull(Check c) {
        FastPlane x = Check.with(Check.parts(12) + JOIN.repeat(16) + MOVES.repeat(16) + TANK.repeat(3));
        for (int i = 0; i < 201; i++) {
            x.show(0, 1);
        }
        for (int i = 0; i < 13; i++) {
            x.bounds(0, 0);
            x.airline(0, 0);
            x.stage(0, 0);
        }
        for (int i = 0; i < 101; i++) {
            x.later(1000);
        }
        for (int i = 0; i < 66; i++) {
            x.feed(0, 0, 0, 0, 0);
        }
        int[] want = {12, 16, 16, 3, 200, 12, 10, 100000, 1300, 8, 0, 0, 0};
        for (int what = 0; what < want.length; what++) {
            c.due("about(" + what + ")", x.about(what), want[what]);
        }
    }

    @Says(promise = 38, words = "An object is used for at most 512 calls after it has been made")
    static void promise38_allOf512Calls(Check c) {
        FastPlane x = new FastPlane();
        for (int call = 1; call < 512; call++) {
            c.due("call " + call, x.later(1), call);
        }
        c.due("call 512", x.about(7), 511);
    }
}

import java.util.List;

/** Boundary cases of TREATIES, their lines, units and words: promises 5 and 11. */
public final class TreatyBoundariesTest {
    private static final int LOW = Check.LOW;
    private static final int HIGH = Check.HIGH;
    private static final String FOUR = "share 1; leave when 1; fly when 0; keep when 0;";
    private static final String[] LINES = {"share ", "leave when ", "fly when ", "keep when "};
    private static final String[] WORDS = "land cost month over ground hour speed airline shown others price".split(" ");
    private static final List<List<String>> MAY_ASK = List.of(List.of("land", "cost", "month"), List.of("month", "over"),
        List.of("ground", "hour", "speed"), List.of("airline", "shown", "others", "price", "month"));
    // The greatest int, as a sum of what four digits can tell.
    private static final String GREATEST = "(9999 * 9999 * 21 + 9999 * 4790 + 8416)";

    public static void main(String[] args) {
        Boundaries.run(TreatyBoundariesTest.class);
    }

    // ---- promise 5: the call

    @Says(promise = 5, words = {"-2, and the TAPE stays: more than 700 bytes, or no such TONGUE.", "in TONGUES 0 .. 2"})
    static void promise5_noSuchTongue(Check c) {
        FastPlane x = new FastPlane();
        for (String text : new String[] {"", "leave when 1;", "leave ?"}) {
            Check.put(x, text);
            for (int tongue : new int[] {-1, 3, 4, 10, LOW, HIGH}) {
                c.due("treaty(" + tongue + ")", x.treaty(tongue), -2);
                c.due("the tape stays", x.about(8), text.length());
                c.due("no fault", x.fault(0), 0);
                for (int other = 0; other <= 2; other++) {
                    c.due("lines of " + other, x.about(10 + other), 0);
                }
            }
            x.end(0);
        }
        for (int tongue = 0; tongue <= 2; tongue++) {
            c.due("treaty(" + tongue + ")", Check.treaty(x, tongue, "leave when 1;"), 1);
            c.due("the tape is empty", x.about(8), 0);
            for (int other = 0; other <= 2; other++) {
                c.due("lines of " + other, x.about(10 + other), other <= tongue ? 1 : 0);
                c.due("leave of " + other, x.leave(0, other, 0), other <= tongue ? 1 : 0);
            }
        }
    }

    @Says(promise = 5, words = {"TREATIES are texts of at most 700 bytes",
        "-2, and the TAPE stays: more than 700 bytes, or no such TONGUE."})
    static void promise5_700BytesAnd701(Check c) {
        for (int bytes : new int[] {8, 9, 699, 700, 701, 702, 1299, 1300}) {
            FastPlane x = new FastPlane();
            Check.put(x, " ".repeat(bytes - 8) + "share 1;");
            boolean fits = bytes <= 700;
            c.due("treaty of " + bytes + " bytes", x.treaty(2), fits ? 1 : -2);
            c.due("bytes then", x.about(8), fits ? 0 : bytes);
            c.due("lines", x.about(12), fits ? 1 : 0);
            if (!fits) {
                c.due("no tongue, and too long", x.treaty(3), -2);
                x.end(700);
                c.due("its first 700 bytes", x.treaty(2), bytes <= 702 ? -1 : 0);
                c.due("place", x.fault(1), bytes <= 702 ? 700 : -1);
            }
        }
    }

    @Says(promise = 5, words = {"TREATIES are texts of at most 700 bytes", "FAULTS 1, 2"})
    static void promise5_faultsAtTheEndOf700Bytes(Check c) {
        c.refusesTreaty(" ".repeat(699), "?", 1);
        c.refusesTreaty(" ".repeat(699), ";", 2);
        c.refusesTreaty(" ".repeat(693) + "share 1", "", 2);
        c.refusesTreaty("", ";".repeat(700), 2);
        c.refusesTreaty("share ", "1".repeat(694), 1);
        c.refusesTreaty("share ", "x".repeat(694), 1);
        c.refusesTreaty("share 1", ")".repeat(693), 2);
        c.refusesTreaty("share (((((((", "(".repeat(687), 2);
    }

    @Says(promise = 5, words = {"The TAPE (empty then, also at a FAULT) is the TREATY in a TONGUE: how many lines",
        "NONE: a FAULT (it stays)"})
    static void promise5_atAFaultItStays(Check c) {
        FastPlane x = Check.with(Check.part("a", 1, 100));
        x.change(0, 0);
        x.airline(5, 9);
        Check.treaty(x, 1, FOUR);
        for (String text : new String[] {"?", "share", "share 99; share 99;", "fly when 1; keep when 1; leave when 0; x",
            "share over;", "share 1 2;"}) {
            c.due("treaty(" + text + ")", Check.treaty(x, 1, text), -1);
            c.due("the tape is empty", x.about(8), 0);
            c.due("lines", x.about(11), 4);
            c.due("share", x.pays(0, 1, 0), 1);
            c.due("leave", x.leave(0, 1, 0), 1);
            c.due("fly", x.soonest(0, 1, 1, 0, 0, 99), -1);
            c.due("keep", x.hold(0, 1, 0), 0);
            c.due("another tongue", x.about(10), 0);
            c.due("another tongue", x.pays(0, 0, 0), 50);
        }
    }

    @Says(promise = 5, words = {"how many lines", "treaty = {line}"})
    static void promise5_fromNoLineToFour(Check c) {
        c.takesTreaty("", 0);
        c.takesTreaty(" \n ", 0);
        for (int first = 0; first < 4; first++) {
            StringBuilder text = new StringBuilder();
            for (int i = 0; i < 4; i++) {
                text.append(LINES[(first + 3 * i) % 4]).append("1;\n");
                FastPlane x = c.takesTreaty(text.toString(), i + 1);
                c.due("about(11)", x.about(11), i + 1);
            }
        }
    }

    @Says(promise = 5, words = {"is the TREATY in a TONGUE", "Not told: share 50, nobody may leave, fly, keep hold."})
    static void promise5_toldAnewNothingIsLeft(Check c) {
        FastPlane x = Check.with(Check.part("a", 1, 100));
        x.change(0, 0);
        x.airline(5, 9);
        for (int line = 0; line < 4; line++) {
            Check.treaty(x, 0, FOUR);
            Check.treaty(x, 0, LINES[line] + "2;");
            c.due("lines", x.about(10), 1);
            c.due("share", x.pays(0, 0, 0), line == 0 ? 2 : 50);
            c.due("leave", x.leave(0, 0, 0), line == 1 ? 1 : 0);
            c.due("fly", x.soonest(0, 1, 0, 0, 0, 99), 103);
            c.due("keep", x.hold(0, 0, 0), 1);
        }
        Check.treaty(x, 0, FOUR);
        c.due("an empty one", x.treaty(0), 0);
        c.due("share", x.pays(0, 0, 0), 50);
        c.due("leave", x.leave(0, 0, 0), 0);
        c.due("fly", x.soonest(0, 1, 0, 0, 0, 99), 103);
        c.due("keep", x.hold(0, 0, 0), 1);
    }

    @Says(promise = 5, words = {"is the TREATY in a TONGUE", "NONE: a FAULT (it stays)"})
    static void promise5_nothingIsLeftOfATextWithAFault(Check c) {
        FastPlane x = Check.with(Check.part("a", 1, 100));
        x.change(0, 0);
        x.airline(5, 9);
        for (int tongue = 0; tongue <= 2; tongue++) {
            c.due("a fault", Check.treaty(x, tongue, FOUR + "x"), -1);
            c.due("another text", Check.treaty(x, tongue, tongue == 1 ? "share 7;" : ""), tongue == 1 ? 1 : 0);
            c.due("share", x.pays(0, tongue, 0), tongue == 1 ? 7 : 50);
            c.due("leave", x.leave(0, tongue, 0), 0);
            c.due("fly", x.soonest(0, 1, tongue, 0, 0, 99), 103);
            c.due("keep", x.hold(0, tongue, 0), 1);
        }
        c.due("each line may be told", Check.treaty(x, 0, FOUR), 4);
    }

    @Says(promise = 5, words = {"60 units in all", "is the TREATY in a TONGUE"})
    static void promise5_toldAgainAndAgain(Check c) {
        FastPlane x = Check.with(Check.part("a", 1, 100));
        x.change(0, 0);
        for (int round = 0; round < 30; round++) {
            c.due("told", Check.treaty(x, 0, "share " + round + "+" + "1+".repeat(58) + "1;"), 1);
            c.due("round " + round, x.pays(0, 0, 0), 59 + round);
        }
    }

    // ---- promise 5: lines

    @Says(promise = 5, words = {"line = share e ; | (leave | fly | keep) when e ;.", "FAULTS 1, 2"})
    static void promise5_eachTokenOfEachLine(Check c) {
        String[] tokens = "? xxxxxxxxx 00000 1x ; ( ) < > = + - * x 1 part when and or not share leave fly keep land over"
            .split(" ");
        List<String> bad = List.of("?", "xxxxxxxxx", "00000", "1x");
        for (String token : tokens) {
            boolean line = List.of("share", "leave", "fly", "keep").contains(token);
            if (!line) {
                c.refusesTreaty("", token + " ", bad.contains(token) ? 1 : 2);
                c.refusesTreaty("keep when 1; ", token + " ", bad.contains(token) ? 1 : 2);
            }
            for (String first : new String[] {"leave ", "fly ", "keep "}) {
                if (!token.equals("when")) {
                    c.refusesTreaty(first, token + " 1;", bad.contains(token) ? 1 : 2);
                }
            }
            if (!List.of("(", "1", "not", "land", "over").contains(token)) {
                c.refusesTreaty("share ", token + " 1;", bad.contains(token) ? 1 : 2);
                c.refusesTreaty("share not ", token + " 1;", bad.contains(token) ? 1 : 2);
                c.refusesTreaty("share (", token + " 1);", bad.contains(token) ? 1 : 2);
                c.refusesTreaty("share 1 + ", token + " 1;", bad.contains(token) ? 1 : 2);
            }
            if (!List.of(";", "<", ">", "=", "+", "-", "*", "and", "or").contains(token)) {
                c.refusesTreaty("share 1 ", token + " 1;", bad.contains(token) ? 1 : 2);
            }
            if (!List.of(")", "<", ">", "=", "+", "-", "*", "and", "or").contains(token)) {
                c.refusesTreaty("share (1 ", token + " 1);", bad.contains(token) ? 1 : 2);
            }
        }
    }

    @Says(promise = 5, words = "line = share e ; | (leave | fly | keep) when e ;.")
    static void promise5_theEndWhereALineGoesOn(Check c) {
        for (String line : LINES) {
            for (String e : new String[] {"1", "(1", "(", "not", "1 +", "1 *", "1 <", "1 and", "1 or", "", "((1)"}) {
                String text = "keep".equals(line.substring(0, 4)) ? line + e : "keep when 1;" + line + e;
                c.refusesTreaty(text, "", 2);
                c.refusesTreaty(text + " \n", "", 2);
            }
        }
        c.refusesTreaty("leave", "", 2);
        c.refusesTreaty("share", "", 2);
    }

    @Says(promise = 5, words = {"Each once.", "(a line a second time: at its first word"})
    static void promise5_aLineASecondTime(Check c) {
        for (int line = 0; line < 4; line++) {
            for (int between = 0; between < 4; between++) {
                String told = LINES[line] + "1; " + (between == line ? "" : LINES[between] + "1;\n");
                c.refusesTreaty(told, LINES[line] + "2;", 2);
                c.refusesTreaty(told, LINES[line].split(" ")[0] + " ?", 2);
                c.refusesTreaty(told, LINES[line].split(" ")[0], 2);
            }
        }
        c.refusesTreaty(FOUR, "share 1;", 2);
        c.refusesTreaty(FOUR, "keep when 1;", 2);
    }

    @Says(promise = 5, words = {"share asks for land, cost, month; leave for month, over; fly for ground, hour, speed;"
        + " keep for airline, shown, others, price, month.", "7 a word that the line may not ask for."})
    static void promise5_wordsThatALineMayAskFor(Check c) {
        for (int line = 0; line < 4; line++) {
            for (String word : WORDS) {
                if (MAY_ASK.get(line).contains(word)) {
                    c.takesTreaty(LINES[line] + word + ";", 1);
                    c.takesTreaty(LINES[line] + "not (1 + " + word + "*" + word + ");", 1);
                } else {
                    c.refusesTreaty(LINES[line], word + ";", 7);
                    c.refusesTreaty(LINES[line] + "not (1 + 1 * ", word + ");", 7);
                    c.refusesTreaty(LINES[line], word + "? ?", 7);
                }
            }
        }
    }

    @Says(promise = 5, words = {"FAULTS 1, 2", "7 a word that the line may not ask for.", "at one place the least",
        "FAULTS, the first by its place"})
    static void promise5_theFirstAndTheLeastFault(Check c) {
        String sixty = "share " + "1+".repeat(60);
        c.refusesTreaty(sixty, "over;", 2);
        c.refusesTreaty(sixty, "?", 1);
        c.refusesTreaty(sixty, "99999;", 1);
        c.refusesTreaty("share 1+".concat("1+".repeat(58)), "over; ?", 7);
        c.refusesTreaty("share ", "over + ?", 7);
        c.refusesTreaty("share ", "? + over", 1);
        c.refusesTreaty("share 1 ", "over;", 2);
        c.refusesTreaty("share (((((((", "(over", 2);
        c.refusesTreaty("share (((((((", "over", 7);
        c.refusesTreaty("leave ", "over;", 2);
        c.refusesTreaty("share 1;", "share over;", 2);
        c.refusesTreaty("share ", "price*;", 7);
    }

    // ---- promise 5: units

    @Says(promise = 5, words = {"60 units in all", "a 61st unit, what is within 7 others: at its first TOKEN"})
    static void promise5_sixtyUnitsAndOneMore(Check c) {
        for (String unit : new String[] {"1", "9999", "land", "cost", "month"}) {
            for (String sign : new String[] {"+", "-", "*", " or ", " and "}) {
                String all = (unit + sign).repeat(59) + unit;
                c.takesTreaty("share " + all + ";", 1);
                c.refusesTreaty("share " + all + sign, unit + ";", 2);
            }
        }
        c.takesTreaty("share 1" + " and not 1".repeat(59) + ";", 1);
        c.refusesTreaty("share 1" + " and not 1".repeat(59) + " or not ", "1;", 2);
        c.takesTreaty("share 1" + " and 1<1".repeat(29) + " and 1;", 1);
        c.refusesTreaty("share 1" + " and 1<1".repeat(29) + " and 1<", "1;", 2);
        c.takesTreaty("share " + "1+".repeat(59) + "1;", 1);
        c.refusesTreaty("share " + "1+".repeat(60), "(1);", 2);
        c.refusesTreaty("share " + "1+".repeat(60), ");", 2);
    }

    @Says(promise = 5, words = {"unit = N | land | cost | month | over | ground | hour | speed | airline | shown | others"
        + " | price | ( e ).", "60 units in all"})
    static void promise5_aUnitOfParenthesesIsOneToo(Check c) {
        c.takesTreaty("share (" + "1+".repeat(58) + "1);", 1);
        c.refusesTreaty("share (" + "1+".repeat(59), "1);", 2);
        c.takesTreaty("share " + "(1)+".repeat(29) + "(1);", 1);
        c.refusesTreaty("share " + "(1)+".repeat(30), "(1);", 2);
        c.refusesTreaty("share " + "(1)+".repeat(30), "1;", 2);
        c.refusesTreaty("share 1+" + "(1)+".repeat(29) + "(", "1);", 2);
        c.takesTreaty("share ((((((( " + "1+".repeat(52) + "1 )))))));", 1);
        c.refusesTreaty("share ((((((( " + "1+".repeat(53), "1 )))))));", 2);
    }

    @Says(promise = 5, words = "60 units in all")
    static void promise5_unitsOfAllLinesTogether(Check c) {
        String fifteen = "1+".repeat(14) + "1;";
        String all = "";
        for (String line : LINES) {
            all += line + fifteen;
        }
        c.takesTreaty(all, 4);
        c.refusesTreaty(all.substring(0, all.length() - 1) + "+", "1;", 2);
        c.takesTreaty("share " + "1+".repeat(58) + "1;keep when 1;", 2);
        c.refusesTreaty("share " + "1+".repeat(59) + "1;keep when ", "1;", 2);
        c.refusesTreaty("share " + "1+".repeat(59) + "1;", "when 1;", 2);
        c.refusesTreaty("share " + "1+".repeat(59) + "1;keep when ", ";", 2);
        FastPlane x = c.takesTreaty("share " + "1+".repeat(59) + "1;", 1);
        c.due("of each tongue by itself", Check.treaty(x, 2, "leave when " + "1+".repeat(59) + "1;"), 1);
        c.due("of each text by itself", Check.treaty(x, 1, "leave when " + "1+".repeat(59) + "1;"), 1);
        c.due("also behind one with a fault", Check.treaty(x, 1, "share " + "1+".repeat(60) + "1;"), -1);
        c.due("behind the fault", Check.treaty(x, 1, "leave when " + "1+".repeat(59) + "1;"), 1);
    }

    @Says(promise = 5, words = "60 units in all")
    static void promise5_whatSixtyUnitsAreWorth(Check c) {
        worth(c, "1+".repeat(59) + "1", 60);
        worth(c, "100" + "-1".repeat(59), 41);
        worth(c, "(" + "1+".repeat(58) + "1)", 59);
        worth(c, "7*" + "1*".repeat(58) + "1", 7);
        worth(c, "0 or ".repeat(59) + "9", 1);
        worth(c, "1 and ".repeat(59) + "0", 0);
        worth(c, "((((((( " + "1+".repeat(52) + "1 )))))))", 53);
        worth(c, "1+(1+(1+(1+(1+(1+(1+(2)))))))", 9);
    }

    // ---- promise 5: depth

    @Says(promise = 5, words = {"a unit ( e ), or a one behind not, within 6 others at most",
        "what is within 7 others: at its first TOKEN, or the not)"})
    static void promise5_withinSixOthersAndSeven(Check c) {
        for (int nots = 0; nots <= 8; nots++) {
            for (int units = 0; units <= 9 - nots; units++) {
                String before = "share " + "not ".repeat(nots) + "(".repeat(units);
                String behind = "1" + ")".repeat(units) + ";";
                if (nots + units <= 7) {
                    c.takesTreaty(before + behind, 1);
                } else if (nots == 8) {
                    c.refusesTreaty("share " + "not ".repeat(7), "not " + "(".repeat(units) + behind, 2);
                } else {
                    int taken = 7 - nots;
                    c.refusesTreaty("share " + "not ".repeat(nots) + "(".repeat(taken),
                        "(".repeat(units - taken) + behind, 2);
                }
            }
        }
    }

    @Says(promise = 5, words = "what is within 7 others: at its first TOKEN, or the not)")
    static void promise5_withinSevenOthersTurnAbout(Check c) {
        c.takesTreaty("share (not (not (not 1)));", 1);
        c.takesTreaty("share (not (not (not (1))));", 1);
        c.refusesTreaty("share (not (not (not (", "not 1))));", 2);
        c.takesTreaty("share not (not (not (not 1)));", 1);
        c.refusesTreaty("share not (not (not (not ", "(1))));", 2);
        c.refusesTreaty("share not (not (not (not ", "not 1)));", 2);
        c.refusesTreaty("share (((((((", "not 1)))))));", 2);
        c.refusesTreaty("share (((((((1 and ", "not 1)))))));", 2);
        c.refusesTreaty("share (((((((1 + ", "(1))))))));", 2);
        c.refusesTreaty("share not not not not not not not 1 + ", "(1);", 2);
        c.takesTreaty("share not not not not not not not 1 + 1 < 1 * 1;", 1);
        c.takesTreaty("share not not not not not not not 1 and (((((((1)))))));", 1);
    }

    @Says(promise = 5, words = "a unit ( e ), or a one behind not, within 6 others at most")
    static void promise5_onlyThoseWithinCount(Check c) {
        c.takesTreaty("share (((((((1+2)*3)<4)and 5)or 6)-7)+land)*(((((((1)))))));", 1);
        c.takesTreaty("share (1)+(2)*(3)-(4)and(5)or(6)<(7) and (8) or (9);", 1);
        c.takesTreaty("share not 1 and not 1 and not 1 and not 1 and not 1 and not 1 and not 1 and not 1 or not 1;", 1);
        c.takesTreaty("share (((((((1)))))));leave when (((((((1)))))));fly when not not not not not not not 1;", 3);
        c.takesTreaty("share ((((((( 1 + 2 * 3 < 4 and 5 or cost )))))));", 1);
        c.refusesTreaty("share (((((((", "?", 1);
        c.refusesTreaty("share (((((((", "over", 7);
        c.refusesTreaty("share (((((((", ")", 2);
        worth(c, "(((((((7)))))))", 7);
        worth(c, "not not not not not not not 0", 1);
        worth(c, "not not not not not not not 5", 0);
        worth(c, "(not (not (not (1 - 1))))", 1);
    }

    // ---- promise 5: what an e is worth

    /** By what LAND 0 pays of 100; the PART is made by 1 and MOVES in month 7. */
    private static void worth(Check c, String e, int due) {
        FastPlane x = Check.with(Check.part("a", 1, "1 cm", 0, 100));
        x.change(0, 7);
        c.due("treaty of " + e, Check.treaty(x, 0, "share " + e + ";"), 1);
        c.due("worth of " + e, x.pays(0, 0, 0), due);
    }

    @Says(promise = 5, words = "Ints, wrapping")
    static void promise5_intsWrap(Check c) {
        c.due("the greatest int", 9999 * 9999 * 21 + 9999 * 4790 + 8416, HIGH);
        worth(c, "(" + GREATEST + " > 0) * 7", 7);
        worth(c, "(" + GREATEST + " + 1 < 0) * 7", 7);
        worth(c, "(" + GREATEST + " + 1 > 0) * 7", 0);
        worth(c, "(0 - " + GREATEST + " - 1 < 0) * 7", 7);
        worth(c, "(0 - " + GREATEST + " - 2 > 0) * 7", 7);
        worth(c, "(0 - " + GREATEST + " - 2 = " + GREATEST + ") * 7", 7);
        worth(c, "(" + GREATEST + " + 1) * 2 + 5", 5);
        worth(c, GREATEST + " * 2 + 9", 7);
        worth(c, GREATEST + " * " + GREATEST + " + 2", 3);
        worth(c, "9999 * 9999 * 21 > 0", 1);
        worth(c, "9999 * 9999 * 22 < 0", 1);
        // A difference would wrap where the relation does not.
        worth(c, "(0 - " + GREATEST + " < 9) * 3", 3);
        worth(c, "(0 - " + GREATEST + " - 1 < " + GREATEST + ") * 3", 3);
        worth(c, "(" + GREATEST + " > 0 - 9) * 3", 3);
    }

    @Says(promise = 5, words = "relations, and, or, not are 1 or 0, of what is not 0")
    static void promise5_oneOrNought(Check c) {
        int[] some = {0, 1, 2, 9};
        for (int a : some) {
            worth(c, "not " + a, a == 0 ? 1 : 0);
            worth(c, "not not " + a, a == 0 ? 0 : 1);
            worth(c, "not (0 - " + a + ")", a == 0 ? 1 : 0);
            for (int b : some) {
                worth(c, a + " < " + b, a < b ? 1 : 0);
                worth(c, a + " > " + b, a > b ? 1 : 0);
                worth(c, a + " = " + b, a == b ? 1 : 0);
                worth(c, a + " and " + b, a != 0 && b != 0 ? 1 : 0);
                worth(c, a + " or " + b, a != 0 || b != 0 ? 1 : 0);
                worth(c, "0 - " + a + " and 0 - " + b, a != 0 && b != 0 ? 1 : 0);
                worth(c, "0 - " + a + " or 0 - " + b, a != 0 || b != 0 ? 1 : 0);
            }
        }
        worth(c, "4 and 2", 1);
        worth(c, "1 and 2", 1);
        worth(c, "(3 < 4) * 50", 50);
    }

    @Says(promise = 5, words = "e = both {or both}. both = one {and one}. one = not one | sum [(< | > | =) sum]. sum = term"
        + " {(+ | -) term}. term = unit {* unit}.")
    static void promise5_whatBindsMore(Check c) {
        worth(c, "1 or 1 and 0", 1);
        worth(c, "0 and 1 or 1", 1);
        worth(c, "not 0 and 0", 0);
        worth(c, "not 0 or 1", 1);
        worth(c, "not 1 or 1", 1);
        worth(c, "not 5 > 7", 1);
        worth(c, "not 7 > 5", 0);
        worth(c, "not 1 + 1", 0);
        worth(c, "not 0 * 5 = 0", 0);
        worth(c, "2 < 1 + 2", 1);
        worth(c, "2 * 3 > 1 + 4", 1);
        worth(c, "2 + 3 * 4", 14);
        worth(c, "2 * 3 + 4", 10);
        worth(c, "30 - 5 - 3", 22);
        worth(c, "30 - 5 + 3", 28);
        worth(c, "2 * 3 * 4", 24);
        worth(c, "1 < 2 and 4 > 3", 1);
        worth(c, "(1 or 1) + 5", 6);
        worth(c, "9 - 2 * 3 = 3", 1);
        c.refusesTreaty("share 1 < 2 ", "< 3;", 2);
        c.refusesTreaty("share 1 = 2 ", "> 3;", 2);
        c.refusesTreaty("share 1 = ", "not 1;", 2);
        c.refusesTreaty("share 1 + ", "not 1;", 2);
        c.refusesTreaty("share 2 * ", "not 1;", 2);
        c.refusesTreaty("share (not 1 < 2 ", "= 3);", 2);
        c.takesTreaty("share (1 < 2) < 3;", 1);
        c.takesTreaty("share 1 < (2 < 3);", 1);
        c.takesTreaty("share 1 < 2 and 2 < 3 or 3 < 4;", 1);
        c.takesTreaty("share 1 and not 1 or not 1;", 1);
    }

    @Says(promise = 5, words = "unit = N | land | cost | month")
    static void promise5_numbersOfFourDigits(Check c) {
        worth(c, "0", 0);
        worth(c, "0000", 0);
        worth(c, "0042", 42);
        worth(c, "9999 - 9998", 1);
        worth(c, "9999 = 9998 + 1", 1);
        c.refusesTreaty("share ", "10000;", 1);
        c.refusesTreaty("share 1-", "00001;", 1);
        c.refusesTreaty("share ", "1cost;", 1);
        c.refusesTreaty("share ", "1and 1;", 1);
        worth(c, "1 and(1)", 1);
        worth(c, "cost-cost+3<4", 1);
    }

    // ---- promise 11

    private static FastPlane tongues(String first, String second) {
        FastPlane x = new FastPlane();
        Check.treaty(x, 0, first);
        Check.treaty(x, 1, second);
        return x;
    }

    private static void unlike(Check c, boolean fly, String first, String second, int due) {
        String line = fly ? "fly when " : "leave when ";
        FastPlane x = tongues(line + first + ";", line + second + ";");
        String said = " of " + first + " and " + second;
        c.due("unlike(0, 1)" + said, x.unlike(0, 1, fly), due);
        c.due("unlike(1, 0)" + said, x.unlike(1, 0, fly), due);
        c.due("unlike(0, 1) again" + said, x.unlike(0, 1, fly), due);
        c.due("in the other line" + said, x.unlike(0, 1, !fly), -1);
    }

    @Says(promise = 11, words = {"leave: the least month (0 .. 199), then over (0 .. 99), by which it holds in just one of"
        + " them", "100 * month + over"})
    static void promise11_eachEndOfMonthAndOver(Check c) {
        for (int month : new int[] {0, 1, 198, 199}) {
            for (int over : new int[] {0, 1, 98, 99}) {
                unlike(c, false, "month = " + month + " and over = " + over, "0", 100 * month + over);
                unlike(c, false, "1", "not (month = " + month + " and over = " + over + ")", 100 * month + over);
            }
            unlike(c, false, "month = " + month, "0", 100 * month);
            unlike(c, false, "month > " + (month - 1 < 0 ? "0 - 1" : month - 1), "0", 100 * month);
        }
        for (int over : new int[] {0, 1, 98, 99}) {
            unlike(c, false, "over = " + over, "0", over);
        }
        unlike(c, false, "month > 199", "0", -1);
        unlike(c, false, "month < 200", "1", -1);
        unlike(c, false, "over > 99", "0", -1);
        unlike(c, false, "over < 100", "1", -1);
        unlike(c, false, "month < 0 or over < 0", "0", -1);
    }

    @Says(promise = 11, words = {"fly: the least ground (0 .. 7), hour (0 .. 23), speed (0 .. 30).",
        "10000 * ground + 100 * hour + speed"})
    static void promise11_eachEndOfGroundHourAndSpeed(Check c) {
        for (int ground : new int[] {0, 1, 6, 7}) {
            for (int hour : new int[] {0, 1, 22, 23}) {
                for (int speed : new int[] {0, 1, 29, 30}) {
                    String at = "ground = " + ground + " and hour = " + hour + " and speed = " + speed;
                    unlike(c, true, at, "0", 10000 * ground + 100 * hour + speed);
                }
                unlike(c, true, "ground = " + ground + " and hour = " + hour, "0", 10000 * ground + 100 * hour);
            }
            unlike(c, true, "ground = " + ground, "0", 10000 * ground);
        }
        unlike(c, true, "hour = 23", "0", 2300);
        unlike(c, true, "speed = 30", "0", 30);
        unlike(c, true, "hour = 23 and speed = 30", "0", 2330);
        unlike(c, true, "ground > 7", "0", -1);
        unlike(c, true, "ground < 8", "1", -1);
        unlike(c, true, "hour > 23", "0", -1);
        unlike(c, true, "hour < 24", "1", -1);
        unlike(c, true, "speed > 30", "0", -1);
        unlike(c, true, "speed < 31", "1", -1);
        unlike(c, true, "ground < 0 or hour < 0 or speed < 0", "0", -1);
    }

    @Says(promise = 11, words = {"the least month (0 .. 199), then over (0 .. 99)",
        "the least ground (0 .. 7), hour (0 .. 23), speed (0 .. 30)."})
    static void promise11_whichIsTheLeast(Check c) {
        unlike(c, false, "month = 3 and over = 2 or month = 2 and over = 50", "0", 250);
        unlike(c, false, "month = 2 and over = 50 or month = 2 and over = 49", "0", 249);
        unlike(c, true, "ground = 1 or hour = 5", "0", 500);
        unlike(c, true, "hour = 1 or speed = 7", "0", 7);
        unlike(c, true, "ground = 2 and hour = 3 or ground = 2 and speed = 30", "0", 20030);
    }

    @Says(promise = 11, words = "by which it holds in just one of them")
    static void promise11_whetherItHoldsNotWhatItIsWorth(Check c) {
        unlike(c, false, "5", "7", -1);
        unlike(c, false, "0 - 1", "1", -1);
        unlike(c, false, "month", "month * 2", -1);
        unlike(c, false, "month", "0", 100);
        unlike(c, false, "over", "not not over", -1);
        unlike(c, false, "over - 99", "1", 99);
        unlike(c, true, "hour + 1", "1", -1);
        unlike(c, true, "ground - 7", "1", 70000);
        unlike(c, true, "0", "1", 0);
        unlike(c, false, "1", "0", 0);
    }

    @Says(promise = 11, words = {"NONE if they are alike, or one is none.", "UNLIKE of two TONGUES in leave (fly false)"})
    static void promise11_noSuchTongue(Check c) {
        FastPlane x = tongues("leave when 1; fly when 0;", "");
        for (boolean fly : new boolean[] {false, true}) {
            for (int none : new int[] {-1, 3, 4, LOW, HIGH}) {
                for (int other = -1; other <= 3; other++) {
                    c.due("unlike(" + none + ", " + other + ")", x.unlike(none, other, fly), -1);
                    c.due("unlike(" + other + ", " + none + ")", x.unlike(other, none, fly), -1);
                }
            }
            for (int a = 0; a <= 2; a++) {
                for (int b = 0; b <= 2; b++) {
                    boolean differ = a != b && (a == 0 || b == 0);
                    c.due("unlike(" + a + ", " + b + ")", x.unlike(a, b, fly), differ ? 0 : -1);
                }
            }
        }
    }

    @Says(promise = 11, words = "Not told: share 50, nobody may leave, fly, keep hold.")
    static void promise11_aTongueWithoutTheLine(Check c) {
        FastPlane x = tongues("leave when month = 199; fly when not (ground = 7 and hour = 23 and speed = 30);", "");
        c.due("nobody may leave", x.unlike(0, 1, false), 19900);
        c.due("fly holds", x.unlike(1, 0, true), 72330);
        c.due("leave when month", tongues("leave when month;", "").unlike(0, 1, false), 100);
        c.due("leave when over", tongues("", "leave when over;").unlike(0, 1, false), 1);
        c.due("fly when ground", tongues("fly when ground;", "").unlike(0, 1, true), 0);
        c.due("fly when 1 - speed", tongues("fly when 1 - speed;", "").unlike(0, 1, true), 1);
        x = tongues("leave when 0; fly when 1; share 1; keep when 0;", "share 2; keep when 1;");
        c.due("nobody may leave", x.unlike(0, 1, false), -1);
        c.due("fly holds", x.unlike(0, 1, true), -1);
    }

    @Says(promise = 11, words = "UNLIKE of two TONGUES")
    static void promise11_whenATreatyIsToldAnew(Check c) {
        FastPlane x = tongues("leave when month = 9;fly when hour = 9;", "leave when month = 8;fly when hour = 8;");
        c.due("leave", x.unlike(0, 1, false), 800);
        c.due("fly", x.unlike(0, 1, true), 800);
        c.due("the third", x.unlike(1, 2, false), 800);
        c.due("the third", x.unlike(1, 2, true), 0);
        Check.treaty(x, 0, "leave when ?");
        c.due("a fault: leave", x.unlike(0, 1, false), 800);
        c.due("a fault: fly", x.unlike(0, 1, true), 800);
        Check.treaty(x, 0, "leave when month = 8 and over < 5;");
        c.due("leave anew", x.unlike(0, 1, false), 805);
        c.due("fly anew", x.unlike(1, 0, true), 0);
        Check.treaty(x, 1, "leave when month = 8 and over < 5;");
        c.due("leave alike", x.unlike(0, 1, false), -1);
        c.due("fly alike", x.unlike(0, 1, true), -1);
        Check.treaty(x, 2, "leave when over = 7;");
        c.due("the third anew", x.unlike(1, 2, false), 7);
        c.due("the third anew", x.unlike(2, 0, false), 7);
    }
}

/** The texts of machines and treaties: which ones are read, and the fault and place of the others. */
public final class FaultsTest {
    private static final Check check = new Check("FaultsTest");
    private static final String A = "part a by 0 long 1 cm grows 0 costs 0;";
    private static final String B = "part b by 1 long 999 inch grows 99 costs 999;";

    public static void main(String[] args) {
        soundMachines();
        noTokens();
        partLines();
        joinLines();
        movesLines();
        tankLines();
        rowLines();
        tooManyLines();
        firstFault();
        soundTreaties();
        treatyLines();
        units();
        depths();
        askedWords();
        values();
        check.finish();
    }

    private static void machine(String text, int lines) {
        check.takesMachine(text, lines);
    }

    private static void machineFault(String before, String text, int fault) {
        check.refusesMachine(before, text, fault);
    }

    private static void treaty(String text, int lines) {
        check.takesTreaty(text, lines);
    }

    private static void treatyFault(String before, String text, int fault) {
        check.refusesTreaty(before, text, fault);
    }

    private static void soundMachines() {
        machine("", 0);
        machine(" \n\n  ", 0);
        machine(A, 1);
        machine(A + B, 2);
        machine("\n" + A.replace(' ', '\n') + " ", 1);
        machine("part a by 0001 long 0001 cm grows 0000 costs 0000 ; ", 1);
        // Tokens need no blank between them where they can't be one.
        machine("tank at 5 holds 5;row 0 aaaaaaaa;row1 aaaaaaaa ;", 3);
    }

    private static void noTokens() {
        machineFault("", "?", 1);
        machineFault(" ", "\t" + A, 1);
        machineFault(A, "\r" + B, 1);
        machineFault("", "Part a", 1);
        machineFault("part ", "abcdefghi by 0", 1);
        machineFault("part abcdefgh ", "bx 0", 2);
        machineFault("part a by ", "00000 ", 1);
        machineFault("part a by 0 long ", "10cm ", 1);
        machineFault("part a by 0 long 10", "Cm ", 1);
        machineFault("part a by ", "0long 1 cm", 1);
        machineFault("part a", "1 by 0", 2);
        machineFault("part a", "_", 1);
        machineFault("", "\u0000", 1);
        machineFault("", "\u00ff", 1);
        machineFault(A, "abcdefghijklmnopqrstuvwxyz", 1);
        machineFault("", "12345", 1);
        machineFault("", "1234", 2);
        machineFault("part a by 0 long 5 cm grows 1 ", "000 costs", 2);
    }

    private static void partLines() {
        machineFault("", "a", 2);
        machineFault("", ";", 2);
        machineFault("", "share 5;", 2);
        machineFault("part ", "part by 0", 2);
        machineFault("part ", "price by 0", 2);
        machineFault("part ", "by 0 long 1 cm grows 0 costs 0;", 2);
        machineFault("part ", "0", 2);
        machineFault("part ", "", 2);
        machineFault(A + "part ", "a by", 3);
        machineFault("part a ", "long 5", 2);
        machineFault("part a by ", "b", 2);
        machineFault("part a by ", "2 long 5", 4);
        machineFault("part a by ", "9999 long 5", 4);
        machineFault("part a by 0 long ", "0 cm", 4);
        machineFault("part a by 0 long ", "1000 cm", 4);
        machineFault("part a by 0 long 5 ", "mm", 2);
        machineFault("part a by 0 long 5 ", "grows", 2);
        machineFault("part a by 0 long 5 cm ", "inch", 2);
        machineFault("part a by 0 long 5 cm grows ", "100", 4);
        machineFault("part a by 0 long 5 cm grows 99 costs ", "1000;", 4);
        machineFault("part a by 0 long 5 cm grows 99 costs 999 ", "part", 2);
        machineFault("part a by 0 long 5 cm grows 99 costs 999 ", "", 2);
        machineFault("part a by 0 long 5 cm grows 99 costs 999\n", "", 2);
        machineFault(A, "; ", 2);
        machineFault("part a by 0 long 5 cm grows 99 costs ", "- 1;", 2);
    }

    private static void joinLines() {
        machine(A + B + "join a b gap 0;join b a gap 99;join a b gap 5;", 5);
        machineFault(A + "join ", "b a gap 5;" + B, 5);
        machineFault(A + B + "join ", "gap", 2);
        machineFault(A + B + "join a ", "c gap 5;", 5);
        machineFault(A + B + "join a ", "a gap 5;", 6);
        machineFault(A + B + "join a ", "gap 5;", 2);
        machineFault(A + B + "join a ", "5 gap 5;", 2);
        machineFault(A + B + "join a b ", "after 5;", 2);
        machineFault(A + B + "join a b gap ", "100;", 4);
        machineFault(A + B + "join a b gap ", "a;", 2);
        machineFault(A + B + "join a b gap 5", "", 2);
        machineFault("join ", "x x gap 5;", 5);
    }

    private static void movesLines() {
        machine(A + B + "moves a b after 0;moves a b after 24;moves b a after 0;", 5);
        machineFault(A + B + "moves ", "c a after 5;", 5);
        machineFault(A + B + "moves a ", "c after 5;", 5);
        machineFault(A + B + "moves b ", "b after 5;", 6);
        machineFault(A + B + "moves b a ", "gap 5;", 2);
        machineFault(A + B + "moves b a after ", "25;", 4);
        machineFault(A + B + "moves b a after 5 ", "months;", 2);
    }

    private static void tankLines() {
        machine("tank at 0 holds 1;tank at 99 holds 15;tank at 0 holds 1;", 3);
        machineFault("tank ", "5", 2);
        machineFault("tank at ", "100 holds 1;", 4);
        machineFault("tank at 99 ", "at", 2);
        machineFault("tank at 99 holds ", "0;", 4);
        machineFault("tank at 99 holds ", "16;", 4);
        machineFault("tank at 99 holds 15", "", 2);
    }

    private static void rowLines() {
        machine("row 0 aaaaaaaa;row 7 hhhhhhhh;row 3 abcdefgh;", 3);
        machineFault("row ", "8 aaaaaaaa;", 4);
        machineFault("row ", "a aaaaaaaa;", 2);
        machineFault("row 0 aaaaaaaa;row ", "0 aaaaaaaa;", 3);
        machineFault("row 0 aaaaaaaa;row ", "0000 aaaaaaaa;", 3);
        machineFault("row 0 ", "aaaaaaai;", 4);
        machineFault("row 0 ", "iaaaaaaa;", 4);
        machineFault("row 0 ", "zzzzzzzz;", 4);
        machineFault("row 0 ", "aaaaaaa;", 4);
        machineFault("row 0 ", "a;", 4);
        machineFault("row 0 ", "aaaaaaaaa;", 1);
        for (String word : ("part by long cm inch grows costs join gap moves after tank at holds row share leave fly keep"
            + " when and or not land cost month over ground hour speed airline shown others price").split(" ")) {
            machineFault("row 0 ", word + ";", 4);
            machineFault("part ", word + " by 0", 2);
            machineFault(A + "join a ", word + " gap 0", 2);
        }
        machineFault("row 7 aaaaaaaa;row ", "7 aaaaaaaa;", 3);
        machineFault("row 3 aaaaaaaa;row 7 aaaaaaaa;row 5 aaaaaaaa;row ", "3 aaaaaaaa;", 3);
        machineFault("row 0 ", "5;", 2);
        machineFault("row 0 ", ";", 2);
        machineFault("row 0 aaaaaaaa ", "b;", 2);
        machineFault("row 0 aaaaaaaa", "", 2);
    }

    private static void tooManyLines() {
        StringBuilder parts = new StringBuilder();
        for (char name = 'a'; name < 'm'; name++) {
            parts.append("part ").append(name).append(" by 0 long 1 cm grows 0 costs 0;");
        }
        machine(parts.toString(), 12);
        machineFault(parts.toString(), "part m by 0 long 1 cm grows 0 costs 0;", 2);
        machineFault(parts.toString(), "part a by", 2);
        String joins = "join a b gap 5;".repeat(16);
        machine(A + B + joins, 18);
        machineFault(A + B + joins, "join a b gap 5;", 2);
        machineFault(A + B + joins + A.replace(" a ", " c "), "join", 2);
        String moves = "moves a b after 5;".repeat(16);
        machine(A + B + moves, 18);
        machineFault(A + B + moves, "moves a b after 5;", 2);
        machine(A + B + moves + joins, 34);
        String tanks = "tank at 5 holds 5;".repeat(3);
        machine(tanks, 3);
        machineFault(tanks, "tank at 5 holds 5;", 2);
    }

    private static void firstFault() {
        machineFault("", ";".repeat(1300), 2);
        machineFault(" ".repeat(1293) + "tank at", "", 2);
        machineFault(" ".repeat(1299), "?", 1);
        machine(" ".repeat(1282) + "tank at 5 holds 5;", 1);
        machineFault("", "a".repeat(1300), 1);
        machineFault("", "1".repeat(1300), 1);
        treatyFault("", ";".repeat(700), 2);
        treatyFault(" ".repeat(695) + "share", "", 2);
        machineFault("part a by ", "2 long ? cm", 4);
        machineFault(A + "join a ", "b gap 200; ?", 5);
        machineFault("row 0 ", "abc 5", 4);
        FastPlane x = new FastPlane();
        Check.machine(x, "?");
        Check.machine(x, A);
        check.due("a fault is forgotten", x.fault(0), 0);
        check.due("its place is forgotten", x.fault(1), -1);
    }

    private static void soundTreaties() {
        treaty("", 0);
        treaty("keep when 1;fly when 1;leave when 1;share 1;", 4);
        treaty("share(1);", 1);
        treaty("share 1+2-3*4<5;", 1);
        treaty("leave when not not 1 and not(0)or 1;", 1);
        treaty("share 1 > 2 and 3 < 4 or 5 = 6;", 1);
        treaty("share(1<2)=(3<4);", 1);
        treaty("share 9999;", 1);
        treaty("\nshare\n0000\n;\n", 1);
    }

    private static void treatyLines() {
        treatyFault("", "part", 2);
        treatyFault("", "row 0 aaaaaaaa;", 2);
        treatyFault("", ";", 2);
        treatyFault("", "x", 2);
        treatyFault("", "?", 1);
        treatyFault("share 1;", "share 2;", 2);
        treatyFault("keep when 1; fly when 1; ", "keep when 1;", 2);
        treatyFault("share ", "when 1;", 2);
        treatyFault("leave ", "1;", 2);
        treatyFault("fly when ", ";", 2);
        treatyFault("fly when 1", "", 2);
        treatyFault("fly when 1 ", "fly", 2);
        treatyFault("fly when ", "", 2);
        treatyFault("share 1 < 2 ", "< 3;", 2);
        treatyFault("share 1 < ", "not 1;", 2);
        treatyFault("share 1 + ", "not 1;", 2);
        treatyFault("share ", "- 1;", 2);
        treatyFault("share 1 ", "2;", 2);
        treatyFault("share (1", ";", 2);
        treatyFault("share 1", ");", 2);
        treatyFault("share (", ");", 2);
        treatyFault("share 1 and ", "and 1;", 2);
        treatyFault("share 1 or ", ";", 2);
        treatyFault("share 1 * ", "* 1;", 2);
        treatyFault("share not ", ";", 2);
        treatyFault("share ", "foo;", 2);
        treatyFault("share ", "12345;", 1);
        treatyFault("share 1 ", "/ 2;", 1);
        treatyFault("share 1 + ", "2x;", 1);
        treatyFault("share ", "cost" + "cost" + "c;", 1);
    }

    private static void units() {
        String sixty = "1+".repeat(59) + "1";
        treaty("share " + sixty + ";", 1);
        treatyFault("share " + sixty + "+", "1;", 2);
        treatyFault("share " + sixty + "+", "(1);", 2);
        treatyFault("share " + sixty + "+", ";", 2);
        treatyFault("share " + sixty + "+", "over;", 2);
        treatyFault("share " + sixty + "+", "?", 1);
        treatyFault("share " + sixty + "+", "not", 2);
        // Those of all lines count together, and ( e ) is one, too.
        treaty("share " + "1+".repeat(29) + "1;leave when " + "1+".repeat(29) + "1;", 2);
        treatyFault("share " + "1+".repeat(29) + "1;leave when " + "1+".repeat(30), "1;", 2);
        treaty("share " + "(1)+".repeat(29) + "(1);", 1);
        treatyFault("share " + "(1)+".repeat(30), "1;", 2);
        treatyFault("share 1+" + "(1)+".repeat(29) + "(", "1);", 2);
        treaty("share 0" + "-land*1".repeat(29) + "-1;", 1);
        treaty("share 1" + " and not 1".repeat(59) + ";", 1);
        treatyFault("share 1" + " and not 1".repeat(59) + " or not ", "1;", 2);
    }

    private static void depths() {
        treaty("share ((((((( 1 )))))));", 1);
        treatyFault("share (((((((", "( 1 ))))))));", 2);
        treaty("share not not not not not not not 1;", 1);
        treatyFault("share not not not not not not not ", "not 1;", 2);
        treaty("share not ( not ( not ( not 1 ) ) );", 1);
        treatyFault("share not ( not ( not ( not ", "( 1 ) ) ) );", 2);
        treatyFault("share ( not ( not ( not ( ", "not 1 ) ) ) );", 2);
        treaty("share ((((((( 1 + 2 * 3 < 4 and 5 or 6 )))))));", 1);
        treaty("share (1)+(2)*(3)-(4)and(5)or(6)<(7);", 1);
        treatyFault("share (((((((", "?", 1);
        treatyFault("share (1) + ", "not 1;", 2);
    }

    private static void askedWords() {
        String[] words = {"land", "cost", "month", "over", "ground", "hour", "speed", "airline", "shown", "others",
            "price"};
        String[] lines = {"share ", "leave when ", "fly when ", "keep when "};
        String[] may = {"land cost month", "month over", "ground hour speed", "airline shown others price month"};
        for (int line = 0; line < 4; line++) {
            for (String word : words) {
                if ((" " + may[line] + " ").contains(" " + word + " ")) {
                    treaty(lines[line] + word + ";", 1);
                } else {
                    treatyFault(lines[line] + "(1 - ", word + ");", 7);
                }
            }
            for (String other : "part by long cm inch grows costs join gap moves after tank at holds row share leave"
                .concat(" fly keep when and or").split(" ")) {
                treatyFault(lines[line], other + " 1;", 2);
            }
        }
        treatyFault("share 1 ", "over;", 2);
    }

    /** What e is worth, by what LAND 0 pays of 100. */
    private static void worth(String e, int due) {
        FastPlane x = Check.with("part a by 1 long 1 cm grows 0 costs 100;");
        x.change(0, 7);
        check.due("treaty of " + e, Check.treaty(x, 0, "share " + e + ";"), 1);
        check.due("worth of " + e, x.pays(0, 0, 0), due);
    }

    private static void values() {
        worth("1 + 2 * 3", 7);
        worth("(1 + 2) * 3", 9);
        worth("20 - 5 - 3", 12);
        worth("20 - (5 - 3)", 18);
        worth("2 * 3 * 4", 24);
        worth("(3 < 4) * 10 + (4 < 3) + (3 > 4) + (4 > 3) * 20 + (4 = 4) * 40 + (4 = 3)", 70);
        worth("3 < 3", 0);
        worth("3 > 3", 0);
        worth("1 + 1 < 3", 1);
        worth("3 > 1 * 2", 1);
        worth("5 and 7", 1);
        worth("5 and 0", 0);
        worth("0 or 9", 1);
        worth("0 or 0", 0);
        worth("1 or 0 and 0", 1);
        worth("(1 or 0) and 0", 0);
        worth("0 and 0 or 1", 1);
        worth("not 0", 1);
        worth("not 5", 0);
        worth("not not 5", 1);
        worth("not 1 < 0", 1);
        worth("not 1 = 1 or 1", 1);
        worth("not 0 and 0", 0);
        worth("(not 0) * 50", 50);
        worth("0 - 1 < 0", 1);
        worth("9999 * 9999 * 9999 * 9999 > 0", 9999 * 9999 * 9999 * 9999 > 0 ? 1 : 0);
        worth("9999 * 9999 * 22 < 0", 1);
        worth("(9999 * 9999 * 22 - 9999 * 9999 * 22) + 5", 5);
        worth("month", 7);
        worth("land * 30 + month * 3", 51);
        worth("cost - 3", 97);
        worth("(cost = 100) * 4", 4);
    }
}

/** Every promise by itself: ordinary calls, the edges that the document names, and wrong inputs. */
public final class PromisesTest {
    private static final int LOW = Check.LOW;
    private static final int HIGH = Check.HIGH;
    private static final String THREE_PARTS = "part nose by 0 long 100 cm grows 10 costs 40;"
        + "part wing by 1 long 40 inch grows 5 costs 30;"
        + "part tail by 0 long 101 cm grows 0 costs 20;";
    private static final Check check = new Check("PromisesTest");

    public static void main(String[] args) {
        promise1();
        promise2();
        promise3();
        promise4();
        promise5();
        promise6();
        promise7();
        promise8();
        promise9();
        promise10();
        promise11();
        promises12to16();
        promise17();
        promise18();
        promise19();
        promise20();
        promise21();
        promises22to24();
        promise25();
        promise26();
        promise27();
        promise28();
        promise29();
        promise30();
        promise31();
        promise32();
        promises33and34();
        promise35();
        promise36();
        promise37();
        promise38();
        check.finish();
    }

    private static void due(String call, long got, long want) {
        check.due(call, got, want);
    }

    private static void due(String call, boolean got, boolean want) {
        check.due(call, got, want);
    }

    private static void promise1() {
        FastPlane x = new FastPlane();
        for (int what = 0; what <= 12; what++) {
            due("1: about(" + what + ")", x.about(what), 0);
        }
        due("1: fault(0)", x.fault(0), 0);
        due("1: fault(1)", x.fault(1), -1);
        due("1: clash(30)", x.clash(30), 0);
        due("1: shared(100)", x.shared(100), 0);
        due("1: pays", x.pays(1, 2, 0), 0);
        due("1: the map is all of ground 0", x.soonest(0, 63, 0, 0, 254, 99), 1442);
        due("1: NONE", FastPlane.NONE, -1);
    }

    private static void promise2() {
        FastPlane x = new FastPlane();
        for (int i = 1; i <= 65; i++) {
            due("2: feed " + i, x.feed(0, 0, 0, 0, 0), 20 * i);
        }
        due("2: a full tape", x.feed(0, 0, 0, 0, 0), -1);
        due("2: nothing came", x.about(8), 1300);
        due("2: 1281 bytes", x.end(1281), 1281);
        due("2: would be 1301", x.feed(0, 0, 0, 0, 0), -1);
        due("2: nothing came", x.about(8), 1281);
        due("2: 1280 bytes", x.end(1280), 1280);
        due("2: the last twenty", x.feed(LOW, HIGH, -1, 0, 1), 1300);

        FastPlane order = new FastPlane();
        // "part", " a b", "y 0 ", ... spell the line out in the order of the bytes.
        order.feed(0x70617274, 0x20612062, 0x79203020, 0x6c6f6e67, 0x20312063);
        order.feed(0x6d206772, 0x6f777320, 0x3020636f, 0x73747320, 0x373b2020);
        due("2: the highest byte first", order.machine(), 1);
        due("2: the line was read", order.mm(0, 0), 10);

        FastPlane high = new FastPlane();
        high.feed(0x20200a20, 0x20202080, 0, 0, 0);
        due("2: a byte above 127", high.machine(), -1);
        due("2: is one byte", high.fault(1), 7);
    }

    private static void promise3() {
        FastPlane x = new FastPlane();
        due("3: end(0) of nothing", x.end(0), 0);
        due("3: end(1) of nothing", x.end(1), -1);
        Check.put(x, "row 0 aaaaaaaa; row");
        due("3: not so many", x.end(20), -1);
        due("3: below 0", x.end(-1), -1);
        due("3: far below 0", x.end(LOW), -1);
        due("3: far above", x.end(HIGH), -1);
        due("3: nothing done", x.about(8), 19);
        due("3: all", x.end(19), 19);
        due("3: the first ones", x.end(15), 15);
        due("3: only those are read", x.machine(), 1);
        Check.put(x, "xy");
        x.end(0);
        due("3: none is an empty text", x.machine(), 0);
    }

    private static void promise4() {
        FastPlane x = new FastPlane();
        due("4: an empty text", x.machine(), 0);
        due("4: lines", Check.machine(x, THREE_PARTS + "join nose wing gap 5;\nrow 7 abcdefgh;"), 5);
        due("4: the tape is empty", x.about(8), 0);
        x.change(0, 1);
        x.later(5);
        x.bounds(0, 99);
        x.pump(0);
        x.airline(1, 2);
        x.stage(1, 2);
        Check.treaty(x, 1, "fly when 0;");
        due("4: a fault", Check.machine(x, "part"), -1);
        due("4: the tape is empty after a fault", x.about(8), 0);
        due("4: parts stay at a fault", x.about(0), 3);
        due("4: joins stay at a fault", x.about(1), 1);
        due("4: facts stay at a fault", x.about(4), 1);
        due("4: steps stay at a fault", x.about(5), 1);
        due("4: the old text is read", x.mm(1, 0), 1016);
        due("4: a new machine", Check.machine(x, "tank at 5 holds 3;tank at 9 holds 3;"), 2);
        due("4: no parts", x.about(0), 0);
        due("4: no joins", x.about(1), 0);
        due("4: tanks", x.about(3), 2);
        due("4: no facts", x.about(4), 0);
        due("4: no steps", x.about(5), 0);
        due("4: the time goes on", x.about(7), 5);
        due("4: airlines stay", x.about(6), 1);
        due("4: stages stay", x.about(9), 1);
        due("4: treaties stay", x.about(11), 1);
        due("4: no fact to untell", x.untell(0), false);
        x.bounds(5, 5);
        due("4: pump stays 0", x.plan(0, 2, 0), -1);
        due("4: facts are counted from 0", x.estimate(0, 1), 0);
        due("4: the same text again", Check.machine(x, ""), 0);
        due("4: and facts are none", x.about(4), 0);
    }

    private static void promise5() {
        FastPlane x = new FastPlane();
        String four = "share 1; leave when 1; fly when 0; keep when 0;";
        due("5: four lines", Check.treaty(x, 0, four), 4);
        due("5: the tape is empty", x.about(8), 0);
        due("5: an empty one", x.treaty(1), 0);
        due("5: a fault", Check.treaty(x, 0, "share ;"), -1);
        due("5: the tape is empty after a fault", x.about(8), 0);
        due("5: it stays", x.about(10), 4);
        due("5: leave stays", x.leave(0, 0, 0), 1);
        Check.put(x, "fly when 1;");
        due("5: no such tongue", x.treaty(3), -2);
        due("5: no such tongue", x.treaty(-1), -2);
        due("5: no such tongue", x.treaty(LOW), -2);
        due("5: no such tongue", x.treaty(HIGH), -2);
        due("5: the tape stays", x.about(8), 11);
        due("5: the last tongue", x.treaty(2), 1);
        Check.put(x, " ".repeat(701));
        due("5: more than 700 bytes", x.treaty(0), -2);
        due("5: the tape stays", x.about(8), 701);
        due("5: nothing changed", x.about(10), 4);
        x.end(700);
        due("5: 700 bytes", x.treaty(0), 0);
        due("5: told anew it is empty", x.about(10), 0);
        due("5: and nobody may leave", x.leave(0, 0, 0), 0);
    }

    private static void promise6() {
        FastPlane x = new FastPlane();
        due("6: ahead of any", x.fault(0), 0);
        due("6: ahead of any", x.fault(1), -1);
        due("6: another what", x.fault(2), -1);
        due("6: another what", x.fault(-1), -1);
        due("6: another what", x.fault(HIGH), -1);
        Check.treaty(x, 0, "  leave if 1;");
        due("6: of a treaty", x.fault(0), 2);
        due("6: its place", x.fault(1), 8);
        x.treaty(3);
        due("6: not of -2", x.fault(0), 2);
        due("6: not of -2", x.fault(1), 8);
        Check.machine(x, "row 9 aaaaaaaa;");
        due("6: of a machine", x.fault(0), 4);
        due("6: its place", x.fault(1), 4);
        x.feed(0, 0, 0, 0, 0);
        due("6: other calls do nothing", x.fault(0), 4);
        x.end(0);
        x.treaty(0);
        due("6: without", x.fault(0), 0);
        due("6: without", x.fault(1), -1);
    }

    private static void promise7() {
        FastPlane x = Check.with(THREE_PARTS + "part hull by 0 long 999 inch grows 99 costs 0;"
            + "part pin by 0 long 1 inch grows 99 costs 0;");
        due("7: cm", x.mm(0, 0), 1000);
        due("7: inch", x.mm(1, 0), 1016);
        due("7: no growth", x.mm(2, 30), 1010);
        due("7: grown", x.mm(0, 30), 1090);
        due("7: cut", x.mm(1, 7), 1018);
        due("7: inch cut", x.mm(4, 0), 25);
        due("7: little growth is cut", x.mm(4, 6), 25);
        due("7: little growth", x.mm(4, 7), 26);
        due("7: all inches", x.mm(3, 0), 25374);
        due("7: above an int", x.mm(3, 30), 25374 + 22608);
        due("7: no such speed", x.mm(0, 31), -1);
        due("7: no such speed", x.mm(0, -1), -1);
        due("7: no such part", x.mm(5, 0), -1);
        due("7: no such part", x.mm(-1, 0), -1);
        due("7: none at all", new FastPlane().mm(0, 0), -1);
        due("7: none", x.mm(HIGH, LOW), -1);
    }

    private static void promise8() {
        FastPlane x = Check.with(THREE_PARTS + "join nose wing gap 16; join wing nose gap 15;"
            + "join nose tail gap 10; join wing tail gap 6;");
        due("8: at rest", x.clash(0), 2);
        due("8: grown", x.clash(30), 1 + 2 + 4 + 8);
        due("8: just before", x.clash(11), 8);
        due("8: no such speed", x.clash(31), -1);
        due("8: no such speed", x.clash(-1), -1);
        due("8: no such speed", x.clash(LOW), -1);
        due("8: no joins", Check.with(THREE_PARTS).clash(5), 0);
    }

    private static void promise9() {
        FastPlane x = Check.with(THREE_PARTS + "join nose wing gap 16; join wing nose gap 15;"
            + "join nose tail gap 10; join nose tail gap 80;join nose tail gap 79;");
        due("9: at once", x.breaks(1), 0);
        due("9: later", x.breaks(2), 15);
        due("9: never", x.breaks(3), -1);
        due("9: at the last speed", x.breaks(4), 30);
        due("9: none such", x.breaks(5), -1);
        due("9: none such", x.breaks(-1), -1);
        due("9: none such", x.breaks(HIGH), -1);
    }

    private static void promise10() {
        FastPlane all = Check.with(THREE_PARTS + "join nose wing gap 99;");
        due("10: all fit", all.mend(0), -1);
        due("10: no joins", Check.with(THREE_PARTS).mend(1), -1);
        FastPlane x = Check.with("part a by 0 long 100 cm grows 0 costs 0;part b by 0 long 120 cm grows 0 costs 0;"
            + "part c by 0 long 150 cm grows 0 costs 0;join a b gap 20;join a c gap 50;join b c gap 10;");
        due("10: the part", x.mend(0), 0);
        due("10: its millimetres", x.mend(1), 1180);
        due("10: how many fit", x.mend(2), 1);
        due("10: another what", x.mend(3), -1);
        due("10: another what", x.mend(-1), -1);
        due("10: another what", x.mend(LOW), -1);
        FastPlane like = Check.with("part a by 0 long 100 cm grows 0 costs 0;part b by 0 long 120 cm grows 0 costs 0;"
            + "join b a gap 20;");
        due("10: of like changes the least part", like.mend(0), 0);
        due("10: of the least part", like.mend(1), 1180);
        FastPlane fewer = Check.with("part b by 0 long 100 cm grows 0 costs 0;part a by 0 long 90 cm grows 0 costs 0;"
            + "part c by 0 long 110 cm grows 0 costs 0;join b a gap 20;join b c gap 20;");
        due("10: fewer millimetres", fewer.mend(0), 0);
        due("10: fewer millimetres", fewer.mend(1), 920);
        due("10: one fits", fewer.mend(2), 1);
        FastPlane speed = Check.with("part a by 0 long 100 cm grows 99 costs 0;part b by 0 long 100 cm grows 0 costs 0;"
            + "join b a gap 0;");
        due("10: at speed 0", speed.mend(0), -1);
        FastPlane grown = Check.with("part a by 0 long 999 inch grows 99 costs 0;part b by 0 long 998 inch grows 0 costs 0;"
            + "join b a gap 5;");
        due("10: at speed 0", grown.mend(1), 25349 + 5);
        due("10: at speed 0", grown.mend(0), 0);
        FastPlane other = Check.with("part a by 0 long 999 inch grows 0 costs 0;part b by 0 long 998 inch grows 99 costs 0;"
            + "join b a gap 5;");
        due("10: at speed 0", other.mend(1), 25349 + 5);
        FastPlane one = Check.with("part a by 0 long 50 cm grows 0 costs 0;part b by 0 long 50 inch grows 0 costs 0;"
            + "part c by 0 long 127 cm grows 0 costs 0;part d by 0 long 102 cm grows 0 costs 0;"
            + "part e by 0 long 40 inch grows 0 costs 0;join b c gap 0;join d e gap 3;");
        due("10: one millimetre", one.mend(1), 1019);
        due("10: one millimetre", one.mend(0), 3);
        due("10: one more fits", one.mend(2), 2);
        FastPlane most = Check.with("part a by 0 long 1 cm grows 0 costs 0;part b by 0 long 30 cm grows 0 costs 0;"
            + "part c by 0 long 31 cm grows 0 costs 0;part d by 0 long 32 cm grows 0 costs 0;"
            + "join a b gap 5;join a c gap 5;join a d gap 5;join b c gap 5;");
        due("10: most joins", most.mend(0), 0);
        due("10: two of them", most.mend(2), 2);
        due("10: as near as can be", most.mend(1), 305);
        due("10: nothing is drawn anew", most.mm(0, 0), 10);
    }

    private static void promise11() {
        FastPlane x = new FastPlane();
        due("11: both empty", x.unlike(0, 1, false), -1);
        due("11: both empty", x.unlike(0, 1, true), -1);
        Check.treaty(x, 0, "leave when month > 198 and over = 99; fly when ground = 7 and hour > 22 and speed = 30;");
        due("11: leave, the last", x.unlike(0, 1, false), 19999);
        due("11: leave, turned", x.unlike(2, 0, false), 19999);
        due("11: a tongue and itself", x.unlike(0, 0, false), -1);
        due("11: fly at once", x.unlike(0, 1, true), 0);
        Check.treaty(x, 1, "fly when not 1;");
        due("11: fly, the last", x.unlike(0, 1, true), 72330);
        due("11: fly, turned", x.unlike(1, 0, true), 72330);
        Check.treaty(x, 1, "leave when month > 198 and over > 98; fly when ground > 6 and hour = 23 and speed = 30;");
        due("11: told in other words", x.unlike(0, 1, true), -1);
        due("11: told in other words", x.unlike(0, 1, false), -1);
        Check.treaty(x, 1, "leave when month > 3 and over > 2;");
        due("11: month, then over", x.unlike(1, 2, false), 403);
        Check.treaty(x, 1, "leave when month < 3 or over > 2;");
        due("11: the least month first", x.unlike(1, 2, false), 0);
        Check.treaty(x, 1, "leave when 5; fly when hour * 100;");
        Check.treaty(x, 2, "leave when 7;fly when 0 < hour;");
        due("11: whether it holds alone", x.unlike(1, 2, false), -1);
        due("11: whether it holds alone", x.unlike(1, 2, true), -1);
        due("11: holds and does not", x.unlike(1, 0, false), 0);
        Check.treaty(x, 1, "leave when month > 199; fly when not hour > 23;");
        Check.treaty(x, 2, "leave when over > 99; fly when not (speed > 30 or ground > 7);");
        due("11: months end at 199, over at 99", x.unlike(1, 2, false), -1);
        due("11: grounds end at 7, hours at 23, speeds at 30", x.unlike(1, 2, true), -1);
        Check.treaty(x, 1, "leave when over = 99;");
        due("11: over alone", x.unlike(1, 2, false), 99);
        Check.treaty(x, 1, "leave when month = 199;fly when not (hour = 23);");
        due("11: month alone", x.unlike(1, 2, false), 19900);
        due("11: hour alone", x.unlike(1, 2, true), 2300);
        Check.treaty(x, 1, "fly when not (speed = 30);");
        due("11: speed alone", x.unlike(1, 2, true), 30);
        Check.treaty(x, 1, "fly when not (ground = 7);");
        due("11: ground alone", x.unlike(1, 2, true), 70000);
        due("11: none", x.unlike(0, 3, true), -1);
        due("11: none", x.unlike(-1, 0, false), -1);
        due("11: none", x.unlike(HIGH, LOW, false), -1);
    }

    private static void promises12to16() {
        FastPlane x = Check.with(THREE_PARTS);
        due("12: the first", x.change(0, 0), 0);
        due("12: the last month", x.change(2, 199), 1);
        due("12: no such part", x.change(3, 0), -1);
        due("12: no such part", x.change(-1, 0), -1);
        due("12: no such month", x.change(0, 200), -1);
        due("12: no such month", x.change(0, -1), -1);
        due("13: zero", x.estimate(0, 0), 2);
        due("13: most", x.estimate(199, 99999), 3);
        due("13: too much", x.estimate(0, 100000), -1);
        due("13: below", x.estimate(0, -1), -1);
        due("13: no such month", x.estimate(200, 1), -1);
        due("13: no such month", x.estimate(-1, 1), -1);
        due("14: one", x.show(0, 1), 4);
        due("14: all", x.show(199, 255), 5);
        due("14: no bits", x.show(0, 0), -1);
        due("14: too many bits", x.show(0, 256), -1);
        due("14: below", x.show(0, -1), -1);
        due("14: no such month", x.show(200, 1), -1);
        due("14: no such month", x.show(-1, 1), -1);
        due("14: nothing done", x.about(4), 6);
        due("15: told", x.untell(3), true);
        due("15: so already", x.untell(3), false);
        due("15: none such", x.untell(6), false);
        due("15: none such", x.untell(-1), false);
        due("15: none such", x.untell(HIGH), false);
        due("15: they are still facts", x.about(4), 6);
        due("16: at first", x.later(0), 0);
        due("16: on", x.later(1000), 1000);
        due("16: too much at once", x.later(1001), -1);
        due("16: back", x.later(-1), -1);
        due("16: nothing done", x.about(7), 1000);
        for (int i = 2; i <= 99; i++) {
            x.later(1000);
        }
        due("16: near the end", x.later(999), 99999);
        due("16: above", x.later(2), -1);
        due("16: the last time", x.later(1), 100000);
        due("16: no more", x.later(1), -1);
        due("16: it stays", x.later(0), 100000);
        for (int i = 6; i < 200; i++) {
            due("12: fact " + i, x.change(0, 5), i);
        }
        due("12: there are 200", x.change(0, 5), -1);
        due("13: there are 200", x.estimate(0, 5), -1);
        due("14: there are 200", x.show(0, 5), -1);
        due("15: the last one", x.untell(199), true);
        due("12: untold ones are there", x.change(0, 5), -1);
    }

    private static void promise17() {
        FastPlane x = Check.with(THREE_PARTS + "moves nose wing after 3; moves wing tail after 24; moves tail nose after 0;"
            + "moves nose tail after 20;");
        due("17: no changes", x.moves(0, 0), -1);
        x.change(0, 5);
        due("17: itself", x.moves(0, 0), 5);
        due("17: moved", x.moves(1, 0), 8);
        due("17: the shorter way", x.moves(2, 0), 25);
        x.change(0, 7);
        due("17: the least of its changes", x.moves(0, 0), 5);
        x.later(10);
        x.change(1, 0);
        due("17: as known before", x.moves(1, 9), 8);
        due("17: as known then", x.moves(1, 10), 0);
        due("17: on and round", x.moves(2, 10), 24);
        x.untell(0);
        due("17: untold at the time", x.moves(0, 10), 7);
        due("17: not untold before", x.moves(0, 9), 5);
        x.untell(2);
        due("17: told and untold at once", x.moves(1, 10), 10);
        due("17: far on", x.moves(2, HIGH), 27);
        due("17: before all", x.moves(0, -1), -1);
        due("17: before all", x.moves(0, LOW), -1);
        due("17: none such", x.moves(3, 0), -1);
        due("17: none such", x.moves(-1, 0), -1);
        x.change(2, 199);
        due("17: at most in the month of another", x.moves(2, 20), 27);
        FastPlane far = Check.with(THREE_PARTS + "moves nose wing after 24;moves wing tail after 24;");
        far.change(0, 199);
        due("17: behind the last month", far.moves(2, 0), 247);
        FastPlane twelve = twelve();
        twelve.change(11, 3);
        due("17: the last of twelve", twelve.moves(11, 0), 3);
        due("17: through all twelve", twelve.moves(10, 0), 3 + 11);
        due("17: a circle without start", Check.with(THREE_PARTS + "moves nose wing after 0;moves wing nose after 0;")
            .moves(0, 0), -1);
    }

    /** Twelve parts, each of which moves the next one a month later. */
    private static FastPlane twelve() {
        StringBuilder text = new StringBuilder();
        for (int i = 0; i < 12; i++) {
            text.append("part p").append((char) ('a' + i)).append(" by 0 long 1 cm grows 0 costs ").append(i).append(";\n");
        }
        for (int i = 0; i < 12; i++) {
            text.append("moves p").append((char) ('a' + i)).append(" p").append((char) ('a' + (i + 1) % 12))
                .append(" after 1;");
        }
        return Check.with(text.toString());
    }

    private static void promise18() {
        FastPlane x = Check.with(THREE_PARTS + "moves nose tail after 24;moves tail wing after 24;");
        due("18: nothing moves", x.cost(0, 0), 0);
        x.change(0, 199);
        due("18: of the month", x.cost(199, 0), 40);
        due("18: moved", x.cost(223, 0), 20);
        due("18: far moved", x.cost(247, 0), 30);
        due("18: another month", x.cost(200, 0), 0);
        x.change(1, 199);
        due("18: of all", x.cost(199, 0), 70);
        due("18: as known before", x.cost(199, -1), 0);
        due("18: the last", x.cost(999, 0), 0);
        x.change(2, 0);
        due("18: the first", x.cost(0, 0), 20);
        due("18: no such month", x.cost(1000, 0), -1);
        due("18: no such month", x.cost(-1, 0), -1);
        due("18: no such month", x.cost(LOW, 0), -1);
    }

    private static void promise19() {
        FastPlane x = Check.with(THREE_PARTS + "part bolt by 1 long 1 cm grows 0 costs 9;"
            + "part cone by 1 long 1 cm grows 0 costs 999;");
        x.change(0, 5);
        x.change(1, 6);
        x.change(3, 7);
        due("19: half, cut", x.pays(0, 0, 0), 20 + 15 + 4);
        due("19: the rest", x.pays(1, 0, 0), 20 + 15 + 5);
        Check.treaty(x, 0, "share 0 - 1;");
        due("19: below 0 is 0", x.pays(0, 0, 0), 0);
        due("19: below 0 is 0", x.pays(1, 0, 0), 79);
        Check.treaty(x, 0, "share 101;");
        due("19: above 100 is 100", x.pays(0, 0, 0), 79);
        due("19: above 100 is 100", x.pays(1, 0, 0), 0);
        Check.treaty(x, 1, "share land * 100;");
        due("19: by whom", x.pays(0, 1, 0), 30 + 9);
        Check.treaty(x, 1, "share (cost > 29) * 10;");
        due("19: its costs", x.pays(0, 1, 0), 4 + 3);
        Check.treaty(x, 1, "share (month = 6) * 10 + (month > 6) * 12;");
        due("19: the month", x.pays(0, 1, 0), 3 + 1);
        due("19: another tongue", x.pays(0, 2, 0), 39);
        Check.treaty(x, 1, "share 9999 * 9999 * 9999;");
        // 9999 * 9999 * 9999 wraps to a number above 100 or below 0.
        due("19: wrapping", x.pays(0, 1, 0), 9999 * 9999 * 9999 > 100 ? 79 : 0);
        due("19: as known before", x.pays(0, 2, -1), 0);
        x.change(4, 199);
        due("19: all but nothing", x.pays(1, 2, 0), 40 + 500);
        due("19: no more than all", x.pays(0, 0, 0), 79 + 999);
        due("19: no less than nothing", x.pays(1, 0, 0), 0);
        x.change(2, 0);
        due("19: what moves in month 0", x.pays(0, 2, 0), 39 + 499 + 10);
        due("19: no such land", x.pays(2, 0, 0), -1);
        due("19: no such land", x.pays(-1, 0, 0), -1);
        due("19: no such tongue", x.pays(0, 3, 0), -1);
        due("19: no such tongue", x.pays(0, -1, 0), -1);
    }

    private static void promise20() {
        FastPlane x = Check.with(THREE_PARTS);
        due("20: no estimate", x.over(0, 0), 99);
        x.estimate(5, 100);
        due("20: behind it", x.over(4, 0), 99);
        due("20: nothing spent", x.over(5, 0), 0);
        x.change(0, 7);
        x.change(1, 9);
        due("20: before", x.over(6, 0), 0);
        due("20: it, too", x.over(7, 0), 4);
        due("20: all up to it", x.over(9, 0), 7);
        due("20: the last month", x.over(199, 0), 7);
        x.estimate(8, 7);
        due("20: the greatest month", x.over(8, 0), 57);
        due("20: above 99 it is 99", x.over(9, 0), 99);
        x.estimate(8, 8);
        due("20: the last told", x.over(8, 0), 50);
        x.later(1);
        x.untell(4);
        due("20: untold", x.over(8, 1), 57);
        due("20: as known before", x.over(8, 0), 50);
        x.estimate(8, 0);
        due("20: an estimate of 0", x.over(8, 1), 99);
        x.estimate(6, 1);
        due("20: a lesser month told later", x.over(9, 1), 99);
        due("20: a lesser month", x.over(6, 1), 0);
        x.estimate(0, 100);
        x.change(2, 0);
        due("20: in month 0", x.over(0, 1), 2);
        due("20: no such month", x.over(200, 0), -1);
        due("20: no such month", x.over(-1, 0), -1);
        due("20: no such month", x.over(HIGH, 0), -1);
    }

    private static void promise21() {
        FastPlane x = Check.with(THREE_PARTS);
        due("21: nobody may leave", x.leave(0, 0, 0), 0);
        Check.treaty(x, 0, "leave when month > 5 and over = 4;");
        x.estimate(0, 100);
        x.change(0, 6);
        due("21: not yet", x.leave(5, 0, 0), 0);
        due("21: one may", x.leave(6, 0, 0), 1);
        due("21: not as known before", x.leave(6, 0, -1), 0);
        due("21: another tongue", x.leave(6, 1, 0), 0);
        Check.treaty(x, 1, "leave when 0 - 3;");
        due("21: what is not 0", x.leave(0, 1, 0), 1);
        due("21: the last month", x.leave(199, 1, 0), 1);
        due("21: no such month", x.leave(200, 1, 0), -1);
        due("21: no such month", x.leave(-1, 1, 0), -1);
        due("21: no such tongue", x.leave(0, 3, 0), -1);
        due("21: no such tongue", x.leave(0, -1, 0), -1);
    }

    private static void promises22to24() {
        FastPlane x = new FastPlane();
        due("22: the first", x.bounds(0, 99), 1);
        due("22: as narrow as can be", x.bounds(5, 5), 2);
        due("22: second below first", x.bounds(6, 5), -1);
        due("22: below 0", x.bounds(-1, 5), -1);
        due("22: above 99", x.bounds(5, 100), -1);
        due("22: far out", x.bounds(LOW, HIGH), -1);
        due("22: nothing done", x.about(5), 2);
        for (int i = 3; i <= 12; i++) {
            due("22: step " + i, x.bounds(0, 0), i);
        }
        due("22: there are 12", x.bounds(0, 0), -1);
        due("23: had 12", x.land(), 12);
        due("23: has none", x.about(5), 0);
        due("23: had none", x.land(), 0);
        due("22: anew", x.bounds(0, 0), 1);
        due("24: none", x.pump(0), true);
        due("24: three", x.pump(3), true);
        due("24: four", x.pump(4), false);
        due("24: below", x.pump(-1), false);
        due("24: far", x.pump(LOW), false);
        FastPlane y = Check.with("tank at 0 holds 9;tank at 10 holds 9;");
        y.bounds(4, 4);
        due("24: 2 at first", y.plan(6, 0, 0), 2);
        due("24: can't be", y.pump(4), false);
        due("24: nothing done", y.plan(6, 0, 0), 2);
        y.pump(1);
        due("24: one is not enough", y.plan(6, 0, 0), -1);
        y.pump(3);
        due("24: three do as well", y.plan(6, 0, 0), 2);
        FastPlane z = Check.with("tank at 0 holds 9;tank at 10 holds 9;");
        z.bounds(5, 5);
        due("24: not 3 at first", z.plan(7, 0, 0), -1);
        z.pump(3);
        due("24: but 3 then", z.plan(7, 0, 0), 3);
    }

    private static void promise25() {
        FastPlane x = Check.with("tank at 0 holds 5; tank at 10 holds 5; tank at 99 holds 1;");
        due("25: no steps", x.plan(5, 5, 1), -1);
        x.bounds(0, 99);
        due("25: nothing is pumped", x.plan(5, 5, 1), 0);
        due("25: no fuel", x.plan(0, 0, 0), -1);
        due("25: the last fuel", x.plan(0, 0, 1), 0);
        due("25: too much", x.plan(6, 0, 0), -1);
        due("25: too much", x.plan(0, 6, 0), -1);
        due("25: too much", x.plan(0, 0, 2), -1);
        due("25: below 0", x.plan(-1, 1, 1), -1);
        due("25: below 0", x.plan(1, -1, 1), -1);
        due("25: below 0", x.plan(1, 1, -1), -1);
        due("25: far", x.plan(HIGH, HIGH, 2), -1);
        x.land();
        x.bounds(5, 5);
        due("25: one is pumped, one burnt", x.plan(4, 1, 0), 1);
        due("25: balanced by burning", x.plan(3, 2, 0), 0);
        due("25: no fuel, no balance", x.plan(1, 0, 0), 0);
        due("25: too far away", x.plan(5, 0, 0), 2);
        x.bounds(0, 0);
        due("25: two steps", x.plan(3, 0, 0), 1);
        due("25: one alone can't be in the middle", x.plan(1, 1, 0), -1);
        x.land();
        x.bounds(6, 10);
        due("25: the tanks are full", x.plan(5, 5, 0), -1);
        FastPlane full = Check.with("tank at 0 holds 5; tank at 10 holds 2;");
        full.bounds(5, 10);
        due("25: no room to pump", full.plan(5, 0, 0), 2);
        due("25: no room to pump", full.plan(5, 2, 0), -1);
        due("25: no such tank", full.plan(1, 0, 1), -1);
        FastPlane one = Check.with("tank at 7 holds 15;");
        for (int i = 0; i < 12; i++) {
            one.bounds(7, 7);
        }
        due("25: twelve steps", one.plan(15, 0, 0), 0);
        due("25: just enough", one.plan(12, 0, 0), 0);
        due("25: too little", one.plan(11, 0, 0), -1);
        due("25: no tanks", startOf("", 0, 99).plan(0, 0, 0), -1);
    }

    private static FastPlane startOf(String text, int from, int to) {
        FastPlane x = Check.with(text);
        x.bounds(from, to);
        return x;
    }

    private static void promise26() {
        FastPlane x = startOf("tank at 0 holds 5; tank at 10 holds 5; tank at 10 holds 5;", 0, 99);
        due("26: the first tank", x.move(1, 1, 1, 0), 0);
        due("26: one that has some", x.move(0, 1, 1, 0), 100);
        due("26: the last tank", x.move(0, 0, 1, 0), 200);
        due("26: no such step", x.move(1, 1, 1, 1), -1);
        due("26: no such step", x.move(1, 1, 1, -1), -1);
        due("26: can't be", x.move(6, 0, 0, 0), -1);
        due("26: no fuel", x.move(0, 0, 0, 0), -1);
        x.land();
        due("26: no steps", x.move(1, 1, 1, 0), -1);
        x.bounds(5, 5);
        // 4 of 0 and 1 at 10: one goes to TANK 1 (9 + 0 + 1) and TANK 0 burns.
        due("26: pumps one", x.move(4, 1, 0, 0), 10);
        // 5 at 0 alone: two to TANK 1 is 18 + 1.
        due("26: pumps two", x.move(5, 0, 0, 0), 19);
        // 0 and 5 at 10: two from TANK 1 to TANK 0 is 18 + 3, TANK 1 burns.
        due("26: pumps back", x.move(0, 5, 0, 0), 121);
        // 0, 1 and 2 at 10: one goes from TANK 2 to TANK 0 (9 + 6 + 0), so that TANK 1 can burn;
        // one from TANK 1 (9 + 3 + 0) leaves TANK 2 alone to burn, which is more.
        due("26: the first of like ones", x.move(0, 1, 2, 0), 115);
        x.bounds(0, 0);
        due("26: the first step", x.move(1, 2, 0, 0), 100);
        due("26: the second step", x.move(1, 2, 0, 1), 100);
        due("26: no third step", x.move(1, 2, 0, 2), -1);
        FastPlane three = startOf("tank at 0 holds 15; tank at 10 holds 15; tank at 20 holds 15;", 0, 99);
        three.bounds(10, 10);
        three.bounds(15, 15);
        // In the end one is at 10 and one at 20; ahead of that three are in balance about 10.
        due("26: a long flight", three.plan(5, 0, 0), 2);
        int[] moves = {9 + 1, 9 + 2, 0};
        for (int step = 0; step < 3; step++) {
            due("26: a long flight, step " + step, three.move(5, 0, 0, step), moves[step]);
        }
        x.land();
        x.bounds(0, 99);
        x.bounds(10, 10);
        due("26: least in all", x.plan(2, 2, 0), 0);
        due("26: first by moves", x.move(2, 2, 0, 0), 0);
        due("26: then it burns the rest", x.move(2, 2, 0, 1), 0);
        due("26: step by step", x.move(2, 1, 1, 1), 0);
    }

    private static void promise27() {
        FastPlane x = new FastPlane();
        due("27: where one is", x.soonest(9, 9, 0, 0, 255, 0), 0);
        due("27: fast", x.soonest(0, 1, 0, 0, 0, 3), 103);
        due("27: slowly for want of fuel", x.soonest(0, 1, 0, 0, 0, 2), 302);
        due("27: not enough", x.soonest(0, 1, 0, 0, 0, 1), -1);
        due("27: barred, so slowly", x.soonest(0, 1, 0, 0, 1, 99), 302);
        due("27: another ground is barred", x.soonest(0, 1, 0, 0, 254, 99), 103);
        due("27: corner to corner", x.soonest(0, 63, 0, 23, 0, 99), 1442);
        due("27: with less fuel", x.soonest(63, 0, 0, 0, 0, 41), 1641);
        due("27: as little as can be", x.soonest(63, 0, 0, 0, 0, 28), 4228);
        due("27: too little", x.soonest(63, 0, 0, 0, 0, 27), -1);
        due("27: not round the edge", x.soonest(7, 8, 0, 0, 0, 99), 824);
        FastPlane map = Check.with("row 0 abaaaaaa; row 1 abaaaaaa; row 2 aaaaaaaa;");
        due("27: slowly over the barred ground", map.soonest(0, 2, 0, 0, 2, 99), 405);
        due("27: of like ones the least fuel", map.soonest(0, 10, 0, 0, 2, 99), 508);
        Check.treaty(map, 0, "fly when ground = 0 or speed < 9;");
        due("27: not at speed 9", map.soonest(0, 2, 0, 0, 0, 99), 618);
        due("27: the ground entered counts", map.soonest(1, 0, 0, 0, 0, 99), 103);
        due("27: into it", map.soonest(0, 1, 0, 0, 0, 99), -1);
        Check.treaty(map, 1, "fly when speed = 9 and hour = 5;");
        due("27: by the hour", map.soonest(0, 1, 1, 5, 0, 99), 302);
        due("27: another hour", map.soonest(0, 1, 1, 4, 0, 99), -1);
        Check.treaty(map, 2, "fly when speed = 20;");
        due("27: fast alone", map.soonest(0, 1, 2, 0, 0, 99), 103);
        due("27: fast is barred", map.soonest(0, 1, 2, 0, 2, 99), -1);
        due("27: least fuel", map.soonest(0, 2, 1, 5, 0, 99), 604);
        due("27: no such cell", x.soonest(64, 0, 0, 0, 0, 0), -1);
        due("27: no such cell", x.soonest(0, 64, 0, 0, 0, 0), -1);
        due("27: no such cell", x.soonest(-1, -1, 0, 0, 0, 0), -1);
        due("27: no such tongue", x.soonest(0, 0, 3, 0, 0, 0), -1);
        due("27: no such hour", x.soonest(0, 0, 0, 24, 0, 0), -1);
        due("27: no such hour", x.soonest(0, 0, 0, -1, 0, 0), -1);
        due("27: no such ground", x.soonest(0, 0, 0, 0, 256, 0), -1);
        due("27: no such ground", x.soonest(0, 0, 0, 0, -1, 0), -1);
        due("27: too much fuel", x.soonest(0, 0, 0, 0, 0, 100), -1);
        due("27: below 0", x.soonest(0, 0, 0, 0, 0, -1), -1);
    }

    private static void promise28() {
        FastPlane x = new FastPlane();
        due("28: the first", x.airline(0, 0), 0);
        due("28: the most", x.airline(999, 199), 1);
        due("28: too dear", x.airline(1000, 0), -1);
        due("28: below 0", x.airline(-1, 0), -1);
        due("28: no such month", x.airline(0, 200), -1);
        due("28: no such month", x.airline(0, -1), -1);
        due("28: nothing done", x.about(6), 2);
        for (int i = 2; i < 10; i++) {
            due("28: airline " + i, x.airline(5, 5), i);
        }
        due("28: there are 10", x.airline(5, 5), -1);
    }

    private static void promise29() {
        FastPlane x = new FastPlane();
        due("29: no airlines", x.hold(0, 0, 0), 0);
        x.airline(10, 5);
        x.airline(20, 6);
        x.airline(30, 7);
        due("29: all", x.hold(4, 0, 0), 7);
        due("29: not in the month itself", x.hold(5, 0, 0), 6);
        due("29: nobody", x.hold(7, 0, 0), 0);
        Check.treaty(x, 0, "keep when airline = 1;");
        due("29: airline", x.hold(0, 0, 0), 2);
        Check.treaty(x, 0, "keep when price > 10;");
        due("29: price", x.hold(0, 0, 0), 6);
        Check.treaty(x, 0, "keep when month > 3 or price = 10;");
        due("29: month", x.hold(3, 0, 0), 1);
        due("29: month", x.hold(4, 0, 0), 7);
        Check.treaty(x, 0, "keep when shown = 5;");
        x.show(3, 1);
        x.later(1);
        x.show(2, 4);
        due("29: shown from the month on", x.hold(3, 0, 1), 7);
        due("29: not ahead of it", x.hold(2, 0, 1), 0);
        due("29: as known before", x.hold(3, 0, 0), 0);
        Check.treaty(x, 1, "keep when others > 1 and price < 30 or others = 2 and price < 25;");
        due("29: one after the other", x.hold(0, 1, 0), 0);
        Check.treaty(x, 2, "keep when others < 2;");
        due("29: all at once", x.hold(0, 2, 0), 0);
        due("29: no such month", x.hold(200, 0, 0), -1);
        due("29: no such month", x.hold(-1, 0, 0), -1);
        due("29: no such tongue", x.hold(0, 3, 0), -1);
        due("29: no such tongue", x.hold(0, -1, 0), -1);
    }

    private static void promise30() {
        FastPlane x = new FastPlane();
        x.airline(10, 5);
        x.airline(20, 6);
        x.airline(30, 7);
        due("30: it does not", x.lapse(0, 4, 0, 0), 0);
        due("30: did not hold at first", x.lapse(0, 5, 0, 0), -1);
        Check.treaty(x, 1, "keep when price < 30 and (others = 2 or price < 20);");
        due("30: in the first round", x.lapse(2, 0, 1, 0), 1);
        due("30: in the second round", x.lapse(1, 0, 1, 0), 2);
        due("30: stays", x.lapse(0, 0, 1, 0), 0);
        Check.treaty(x, 1, "keep when price < 30 and (others = 2 or price < 20 and others > 0);");
        due("30: in the third round", x.lapse(0, 0, 1, 0), 3);
        due("30: others without those at first", x.lapse(1, 5, 1, 0), 1);
        due("30: none such", x.lapse(3, 0, 0, 0), -1);
        due("30: none such", x.lapse(-1, 0, 0, 0), -1);
        due("30: no such month", x.lapse(0, 200, 0, 0), -1);
        due("30: no such month", x.lapse(0, -1, 0, 0), -1);
        due("30: no such tongue", x.lapse(0, 0, 3, 0), -1);
        due("30: no such tongue", x.lapse(0, 0, -1, 0), -1);
        FastPlane ten = new FastPlane();
        for (int i = 0; i < 10; i++) {
            ten.airline(i, 9);
        }
        Check.treaty(ten, 0, "keep when others > airline;");
        // With n who hold those from n - 1 on lapse: one in each round.
        for (int i = 0; i < 10; i++) {
            due("30: ten rounds, " + i, ten.lapse(i, 0, 0, 0), 10 - i);
        }
        due("30: nobody is left", ten.hold(0, 0, 0), 0);
    }

    private static void promise31() {
        FastPlane x = Check.with(THREE_PARTS);
        due("31: nothing twice", x.shared(0), 0);
        due("31: parted well", x.shared(44), 0);
        // 40 and 50: the least that one land has is 40 of 90, which is 44.4 of a hundred.
        due("31: no longer", x.shared(45), 20);
        due("31: exactly half", x.shared(50), 20);
        due("31: both make all", x.shared(100), 90);
        due("31: nearly all", x.shared(99), 90);
        due("31: can't be", x.shared(101), -1);
        due("31: can't be", x.shared(-1), -1);
        due("31: no parts", new FastPlane().shared(100), 0);
        due("31: no parts, can't be", new FastPlane().shared(101), -1);
        Check.machine(x, "part a by 0 long 1 cm grows 0 costs 50;part b by 0 long 1 cm grows 0 costs 50;");
        due("31: a new machine", x.shared(50), 0);
        due("31: one twice is not enough", x.shared(51), 100);
    }

    private static void promise32() {
        FastPlane x = Check.with(THREE_PARTS);
        due("32: all by land 0", x.maker(2, 0), 0);
        due("32: first part first", x.maker(0, 44), 0);
        due("32: the others", x.maker(1, 44), 1);
        due("32: the others", x.maker(2, 44), 1);
        due("32: both", x.maker(2, 50), 2);
        due("32: the first by land 0", x.maker(0, 50), 0);
        due("32: the second by land 1", x.maker(1, 50), 1);
        due("32: both make all", x.maker(0, 100), 2);
        due("32: none such", x.maker(3, 50), -1);
        due("32: none such", x.maker(-1, 50), -1);
        due("32: can't be", x.maker(0, 101), -1);
        due("32: can't be", x.maker(0, -1), -1);
        Check.machine(x, "part a by 0 long 1 cm grows 0 costs 0;part b by 0 long 1 cm grows 0 costs 5;");
        due("32: costs nothing", x.maker(0, 100), 0);
        FastPlane twelve = twelve();
        due("32: twelve parts", twelve.shared(50), 0);
        // 33 each: 1 + .. + 5 + 7 + 11 is the first.
        int[] makers = {0, 0, 0, 0, 0, 0, 1, 0, 1, 1, 1, 0};
        for (int part = 0; part < 12; part++) {
            due("32: twelve parts, " + part, twelve.maker(part, 50), makers[part]);
        }
        due("32: the last of twelve", twelve.maker(11, 0), 0);
        due("32: no thirteenth", twelve.maker(12, 0), -1);
        due("32: a new machine", x.maker(1, 100), 2);
    }

    private static void promises33and34() {
        FastPlane x = new FastPlane();
        due("33: the first", x.stage(0, 0), 0);
        due("33: the most", x.stage(30, 10), 1);
        due("33: too dear", x.stage(31, 0), -1);
        due("33: below 0", x.stage(-1, 0), -1);
        due("33: too many tenths", x.stage(0, 11), -1);
        due("33: below 0", x.stage(0, -1), -1);
        due("33: nothing done", x.about(9), 2);
        for (int i = 2; i < 8; i++) {
            due("33: stage " + i, x.stage(1, 1), i);
        }
        due("33: there are 8", x.stage(1, 1), -1);
        due("34: nothing", x.grant(0, 0), true);
        due("34: the most", x.grant(9, 4), true);
        due("34: too much", x.grant(10, 0), false);
        due("34: too much", x.grant(0, 5), false);
        due("34: below 0", x.grant(-1, 0), false);
        due("34: below 0", x.grant(0, -1), false);
        FastPlane y = new FastPlane();
        y.stage(10, 5);
        y.grant(5, 1);
        due("34: counts", y.safe(0, 0, 0), 1);
        y.grant(9, 5);
        y.grant(10, 4);
        due("34: nothing done", y.safe(0, 0, 1), 0);
        y.grant(0, 0);
        due("34: anew", y.safe(0, 0, 0), 0);
    }

    private static void promise35() {
        FastPlane x = new FastPlane();
        due("35: no stages", x.safe(0, 0, 6), 1);
        x.stage(9, 5);
        due("35: cut", x.safe(4, 5, 0), 1);
        due("35: land 0 lacks", x.safe(3, 30, 0), 0);
        due("35: land 1 lacks", x.safe(30, 4, 0), 0);
        due("35: a veto", x.safe(4, 5, 1), 0);
        due("35: each can pay all", x.safe(9, 9, 1), 1);
        due("35: land 0 can't pay all", x.safe(8, 9, 1), 0);
        due("35: land 1 can't pay all", x.safe(9, 8, 6), 0);
        x.stage(9, 5);
        due("35: two stages", x.safe(8, 10, 0), 1);
        due("35: one veto", x.safe(13, 14, 1), 1);
        due("35: two vetoes", x.safe(13, 14, 2), 0);
        due("35: two vetoes", x.safe(18, 18, 2), 1);
        due("35: more do no more", x.safe(18, 18, 6), 1);
        x.grant(5, 1);
        due("35: waits once", x.safe(8, 9, 1), 1);
        due("35: not twice", x.safe(3, 30, 0), 1);
        due("35: not more", x.safe(2, 30, 0), 0);
        x.grant(9, 4);
        due("35: up to 30", x.safe(0, 0, 6), 1);
        due("35: none", x.safe(31, 0, 0), -1);
        due("35: none", x.safe(0, 31, 0), -1);
        due("35: none", x.safe(-1, 0, 0), -1);
        due("35: none", x.safe(0, -1, 0), -1);
        due("35: none", x.safe(0, 0, 7), -1);
        due("35: none", x.safe(0, 0, -1), -1);
        FastPlane eight = new FastPlane();
        for (int i = 0; i < 8; i++) {
            eight.stage(3, 5);
        }
        due("35: eight stages", eight.safe(8, 16, 0), 1);
        due("35: eight stages, one too little", eight.safe(8, 15, 0), 0);
        due("35: eight stages, one too little", eight.safe(7, 16, 0), 0);
        due("35: eight stages and six vetoes", eight.safe(20, 22, 6), 1);
        due("35: eight stages and six vetoes", eight.safe(19, 22, 6), 0);
        due("35: eight stages and six vetoes", eight.safe(20, 21, 6), 0);
        FastPlane cap = new FastPlane();
        cap.stage(20, 10);
        cap.stage(20, 10);
        cap.grant(9, 2);
        due("35: money stops at 30", cap.safe(30, 0, 0), 1);
        cap.stage(10, 10);
        due("35: waiting when rich is lost", cap.safe(30, 0, 0), 0);
    }

    private static void promise36() {
        FastPlane x = new FastPlane();
        due("36: no stages", x.bears(0, 0), 6);
        x.stage(9, 5);
        x.stage(9, 5);
        due("36: never", x.bears(7, 30), -1);
        due("36: none", x.bears(8, 10), 0);
        due("36: one", x.bears(13, 14), 1);
        due("36: all", x.bears(18, 18), 6);
        due("36: none", x.bears(31, 0), -1);
        due("36: none", x.bears(0, 31), -1);
        due("36: none", x.bears(-1, 0), -1);
        due("36: none", x.bears(0, LOW), -1);
    }

    private static void promise37() {
        FastPlane x = new FastPlane();
        due("37: no stages", x.should(30, 30, 0), -1);
        x.stage(10, 5);
        due("37: go on", x.should(5, 5, 0), 1);
        due("37: not safe", x.should(4, 5, 0), -1);
        x.grant(1, 1);
        due("37: wait", x.should(4, 5, 0), 0);
        due("37: both do", x.should(5, 5, 0), 1);
        due("37: not safe", x.should(3, 5, 0), -1);
        due("37: a veto", x.should(10, 9, 1), 0);
        due("37: a veto", x.should(10, 8, 1), -1);
        x.grant(9, 0);
        due("37: no slack", x.should(4, 5, 0), -1);
        due("37: none", x.should(31, 0, 0), -1);
        due("37: none", x.should(0, 31, 0), -1);
        due("37: none", x.should(0, -1, 0), -1);
        due("37: none", x.should(30, 30, 7), -1);
        due("37: none", x.should(30, 30, -1), -1);
    }

    private static void promise38() {
        FastPlane x = Check.with(THREE_PARTS + "join nose wing gap 1;join nose wing gap 1;"
            + "moves nose wing after 1;tank at 1 holds 1;row 0 aaaaaaaa;");
        x.change(0, 0);
        x.estimate(0, 0);
        x.show(0, 1);
        x.untell(0);
        for (int i = 0; i < 5; i++) {
            x.bounds(0, 0);
        }
        for (int i = 0; i < 6; i++) {
            x.airline(0, 0);
        }
        x.later(77);
        for (int i = 0; i < 4; i++) {
            x.stage(0, 0);
        }
        Check.treaty(x, 0, "share 1;");
        Check.treaty(x, 1, "share 1;fly when 1;");
        Check.treaty(x, 2, "share 1;fly when 1;keep when 0;");
        x.feed(0, 0, 0, 0, 0);
        int[] want = {3, 2, 1, 1, 3, 5, 6, 77, 20, 4, 1, 2, 3};
        for (int what = 0; what < want.length; what++) {
            due("38: about(" + what + ")", x.about(what), want[what]);
        }
        due("38: another what", x.about(13), -1);
        due("38: another what", x.about(-1), -1);
        due("38: another what", x.about(HIGH), -1);
        due("38: another what", x.about(LOW), -1);
    }
}

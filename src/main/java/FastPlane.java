import java.util.Arrays;

/**
 * Two lands that make one aeroplane faster than sound. What each method promises stands in
 * DOC.md; how the program may be written stands in LANGUAGE.md.
 */
public final class FastPlane {
    public static final int NONE = -1;

    private static final int NOT_ASKED_FOR = -2;
    private static final int TONGUES = 3;
    private static final int LAST_MONTH = 199;
    private static final int FASTEST = 30;

    private final Tape tape;
    private Machine machine;
    private Machine spareMachine;
    private final Mender mender;
    private final Treaty[] treaties;
    private Treaty spareTreaty;
    private final Unlike differences;
    private final Facts facts;
    private final Flight flight;
    private final Ways ways;
    private final Airlines airlines;
    private final Works works;
    private final Stages stages;

    public FastPlane() {
        tape = new Tape();
        machine = new Machine();
        spareMachine = new Machine();
        mender = new Mender();
        treaties = new Treaty[TONGUES];
        for (int tongue = 0; tongue < TONGUES; tongue++) {
            treaties[tongue] = new Treaty();
        }
        spareTreaty = new Treaty();
        differences = new Unlike();
        facts = new Facts();
        flight = new Flight();
        ways = new Ways();
        airlines = new Airlines();
        works = new Works();
        stages = new Stages();
    }

    public int feed(int a, int b, int c, int d, int e) {
        if (!tape.hasRoom(20)) {
            return NONE;
        }
        tape.append(a);
        tape.append(b);
        tape.append(c);
        tape.append(d);
        tape.append(e);
        return tape.length;
    }

    public int end(int n) {
        if (!within(n, 0, tape.length)) {
            return NONE;
        }
        tape.length = n;
        return n;
    }

    public int machine() {
        boolean sound = spareMachine.read(tape);
        tape.length = 0;
        if (!sound) {
            return NONE;
        }
        Machine old = machine;
        machine = spareMachine;
        spareMachine = old;
        facts.forget();
        flight.dropSteps();
        works.forget();
        return machine.lines;
    }

    public int treaty(int tongue) {
        if (!isTongue(tongue) || tape.length > Treaty.MOST_BYTES) {
            return NOT_ASKED_FOR;
        }
        boolean sound = spareTreaty.read(tape);
        tape.length = 0;
        if (!sound) {
            return NONE;
        }
        Treaty old = treaties[tongue];
        treaties[tongue] = spareTreaty;
        spareTreaty = old;
        differences.forget();
        return treaties[tongue].lines;
    }

    public int fault(int what) {
        if (what == 0) {
            return tape.fault;
        }
        return what == 1 ? tape.place : NONE;
    }

    public int mm(int part, int speed) {
        if (!isPart(part) || !within(speed, 0, FASTEST)) {
            return NONE;
        }
        return machine.lengthAt(part, speed);
    }

    public int clash(int speed) {
        if (!within(speed, 0, FASTEST)) {
            return NONE;
        }
        int bits = 0;
        for (int join = 0; join < machine.joins; join++) {
            if (!machine.fits(join, speed)) {
                bits |= 1 << join;
            }
        }
        return bits;
    }

    public int breaks(int join) {
        if (!within(join, 0, machine.joins - 1)) {
            return NONE;
        }
        for (int speed = 0; speed <= FASTEST; speed++) {
            if (!machine.fits(join, speed)) {
                return speed;
            }
        }
        return NONE;
    }

    public int mend(int what) {
        if (!within(what, 0, 2)) {
            return NONE;
        }
        mender.search(machine);
        if (mender.part == NONE) {
            return NONE;
        }
        if (what == 0) {
            return mender.part;
        }
        return what == 1 ? mender.length : mender.fitting;
    }

    public int unlike(int a, int b, boolean fly) {
        if (!isTongue(a) || !isTongue(b)) {
            return NONE;
        }
        return differences.between(treaties, a, b, fly);
    }

    public int change(int part, int month) {
        if (!isPart(part) || !isMonth(month)) {
            return NONE;
        }
        return facts.tell(Facts.CHANGE, month, part);
    }

    public int estimate(int month, int cost) {
        if (!isMonth(month) || !within(cost, 0, 99999)) {
            return NONE;
        }
        return facts.tell(Facts.ESTIMATE, month, cost);
    }

    public int show(int month, int bits) {
        if (!isMonth(month) || !within(bits, 1, 255)) {
            return NONE;
        }
        return facts.tell(Facts.SHOWN, month, bits);
    }

    public boolean untell(int fact) {
        return facts.takeBack(fact);
    }

    public int later(int by) {
        return facts.letPass(by);
    }

    public int moves(int part, int k) {
        if (!isPart(part)) {
            return NONE;
        }
        facts.findMonths(machine, k);
        return facts.monthOf(part);
    }

    public int cost(int month, int k) {
        if (!within(month, 0, 999)) {
            return NONE;
        }
        facts.findMonths(machine, k);
        return facts.spent(machine, month, month);
    }

    public int pays(int land, int tongue, int k) {
        if (!within(land, 0, 1) || !isTongue(tongue)) {
            return NONE;
        }
        facts.findMonths(machine, k);
        return facts.paidBy(land, machine, treaties[tongue]);
    }

    public int over(int month, int k) {
        if (!isMonth(month)) {
            return NONE;
        }
        return facts.overrun(machine, month, k);
    }

    public int leave(int month, int tongue, int k) {
        if (!isMonth(month) || !isTongue(tongue)) {
            return NONE;
        }
        return treaties[tongue].mayLeave(month, facts.overrun(machine, month, k)) ? 1 : 0;
    }

    public int bounds(int from, int to) {
        return flight.addStep(from, to);
    }

    public int land() {
        return flight.dropSteps();
    }

    public boolean pump(int most) {
        return flight.setPump(most);
    }

    public int plan(int a, int b, int c) {
        return flight.leastPumped(machine, a, b, c);
    }

    public int move(int a, int b, int c, int step) {
        return flight.moveOf(machine, a, b, c, step);
    }

    public int soonest(int from, int to, int tongue, int hour, int barred, int fuel) {
        if (!within(from, 0, Machine.CELLS - 1) || !within(to, 0, Machine.CELLS - 1)) {
            return NONE;
        }
        if (!isTongue(tongue) || !within(hour, 0, 23)) {
            return NONE;
        }
        if (!within(barred, 0, 255) || !within(fuel, 0, 99)) {
            return NONE;
        }
        ways.open(treaties[tongue], hour, barred);
        return ways.fewestMinutes(machine, from, to, fuel);
    }

    public int airline(int price, int month) {
        if (!within(price, 0, 999) || !isMonth(month)) {
            return NONE;
        }
        return airlines.add(price, month);
    }

    public int hold(int month, int tongue, int k) {
        if (!isMonth(month) || !isTongue(tongue)) {
            return NONE;
        }
        airlines.settle(treaties[tongue], month, facts.shownBy(month, k));
        return airlines.holders();
    }

    public int lapse(int airline, int month, int tongue, int k) {
        if (!within(airline, 0, airlines.count - 1) || !isMonth(month) || !isTongue(tongue)) {
            return NONE;
        }
        airlines.settle(treaties[tongue], month, facts.shownBy(month, k));
        return airlines.roundOf(airline);
    }

    public int shared(int least) {
        if (!within(least, 0, 100)) {
            return NONE;
        }
        works.divide(machine, least);
        return works.twice;
    }

    public int maker(int part, int least) {
        if (!isPart(part) || !within(least, 0, 100)) {
            return NONE;
        }
        works.divide(machine, least);
        return works.makerOf(part);
    }

    public int stage(int cost, int part) {
        return stages.add(cost, part);
    }

    public boolean grant(int money, int slack) {
        return stages.setGrant(money, slack);
    }

    public int safe(int first, int second, int vetoes) {
        if (!isMoney(first) || !isMoney(second) || !within(vetoes, 0, Stages.MOST_VETOES)) {
            return NONE;
        }
        return stages.isSafe(first, second, vetoes) ? 1 : 0;
    }

    public int bears(int first, int second) {
        if (!isMoney(first) || !isMoney(second)) {
            return NONE;
        }
        for (int vetoes = Stages.MOST_VETOES; vetoes >= 0; vetoes--) {
            if (stages.isSafe(first, second, vetoes)) {
                return vetoes;
            }
        }
        return NONE;
    }

    public int should(int first, int second, int vetoes) {
        if (!isMoney(first) || !isMoney(second) || !within(vetoes, 0, Stages.MOST_VETOES)) {
            return NONE;
        }
        return stages.firstYear(first, second, vetoes);
    }

    public int about(int what) {
        switch (what) {
            case 0: return machine.parts;
            case 1: return machine.joins;
            case 2: return machine.moves;
            case 3: return machine.tanks;
            case 4: return facts.count;
            case 5: return flight.steps;
            case 6: return airlines.count;
            case 7: return facts.time;
            case 8: return tape.length;
            case 9: return stages.count;
            default: break;
        }
        return within(what, 10, 10 + TONGUES - 1) ? treaties[what - 10].lines : NONE;
    }

    private boolean isPart(int part) {
        return within(part, 0, machine.parts - 1);
    }

    private static boolean isTongue(int tongue) {
        return within(tongue, 0, TONGUES - 1);
    }

    private static boolean isMonth(int month) {
        return within(month, 0, LAST_MONTH);
    }

    private static boolean isMoney(int money) {
        return within(money, 0, Stages.MOST_MONEY);
    }

    private static boolean within(int number, int low, int high) {
        return number >= low && number <= high;
    }

    /** The bytes that were fed, the TOKEN that comes next in them, and the FAULT found last. */
    private static final class Tape {
        static final int MOST_BYTES = 1300;

        static final int PART = 0;
        static final int BY = 1;
        static final int LONG = 2;
        static final int CM = 3;
        static final int INCH = 4;
        static final int GROWS = 5;
        static final int COSTS = 6;
        static final int JOIN = 7;
        static final int GAP = 8;
        static final int MOVES = 9;
        static final int AFTER = 10;
        static final int TANK = 11;
        static final int AT = 12;
        static final int HOLDS = 13;
        static final int ROW = 14;
        static final int SHARE = 15;
        static final int LEAVE = 16;
        static final int FLY = 17;
        static final int KEEP = 18;
        static final int WHEN = 19;
        static final int AND = 20;
        static final int OR = 21;
        static final int NOT = 22;
        static final int LAND = 23;
        static final int COST = 24;
        static final int MONTH = 25;
        static final int OVER = 26;
        static final int GROUND = 27;
        static final int HOUR = 28;
        static final int SPEED = 29;
        static final int AIRLINE = 30;
        static final int SHOWN = 31;
        static final int OTHERS = 32;
        static final int PRICE = 33;
        // A sign is a kind by its own number, which is 40 or more.
        static final int NAME = 100;
        static final int NUMBER = 101;
        static final int END = 102;
        static final int BAD = 103;

        static final int NO_TOKEN = 1;
        static final int MISPLACED = 2;
        static final int TOLD_ALREADY = 3;
        static final int CANNOT_BE = 4;
        static final int UNKNOWN = 5;
        static final int LIKE_FIRST = 6;
        static final int NOT_TO_ASK = 7;

        private static final int LONGEST_WORD = 8;
        private static final int MOST_DIGITS = 4;
        private static final int OWN_WORDS = 34;
        private static final String SIGNS = ";()<>=+-*";
        // In the order of the constants above, each with a blank behind it.
        private static final String WORDS_OF_MACHINES = "part by long cm inch grows costs join gap moves after tank at holds row ";
        private static final String WORDS_OF_TREATIES = "share leave fly keep when and or not land cost month over ground hour speed airline shown others price ";

        private final long[] ownWords = new long[OWN_WORDS];
        private final int[] text = new int[MOST_BYTES];
        int length;
        // Each TOKEN's kind, first byte, and what it is worth: a number's value, a word's letters.
        private int tokens;
        private final int[] kinds = new int[MOST_BYTES + 1];
        private final int[] starts = new int[MOST_BYTES + 1];
        private final long[] worths = new long[MOST_BYTES + 1];
        private int token;
        int kind;
        private int start;
        int number;
        long word;
        int fault;
        int place = NONE;

        Tape() {
            putOwnWords(WORDS_OF_MACHINES, PART);
            putOwnWords(WORDS_OF_TREATIES, SHARE);
        }

        boolean hasRoom(int bytes) {
            return length + bytes <= MOST_BYTES;
        }

        void append(int four) {
            for (int shift = 24; shift >= 0 && length < MOST_BYTES; shift -= 8) {
                text[length] = four >>> shift & 255;
                length++;
            }
        }

        /** Goes to the first TOKEN; ahead of reading a text there is no FAULT. */
        void begin() {
            fault = 0;
            place = NONE;
            split();
            token = NONE;
            advance();
        }

        boolean sound() {
            return fault == 0;
        }

        /** The end comes again and again. */
        void advance() {
            token = Math.min(token + 1, tokens - 1);
            if (token >= 0 && token <= MOST_BYTES) {
                kind = kinds[token];
                start = starts[token];
                word = worths[token];
                number = kind == NUMBER ? (int) word : NONE;
            }
        }

        /** Only the first FAULT stays: a text is read from its front, so none lies ahead of it. */
        void refuse(int what) {
            if (fault == 0) {
                fault = kind == BAD ? NO_TOKEN : what;
                place = start;
            }
        }

        void expect(int wanted) {
            if (kind == wanted) {
                advance();
            } else {
                refuse(MISPLACED);
            }
        }

        /** The number that has to come, or NONE if it is refused. */
        int expectNumber(int low, int high) {
            if (kind != NUMBER) {
                refuse(MISPLACED);
                return NONE;
            }
            if (!within(number, low, high)) {
                refuse(CANNOT_BE);
                return NONE;
            }
            int taken = number;
            advance();
            return taken;
        }

        int expectNumberBehind(int ownWord, int low, int high) {
            expect(ownWord);
            return sound() ? expectNumber(low, high) : NONE;
        }

        /** Any word of letters, whether it stands for itself or not. */
        boolean atWord() {
            return kind == NAME || within(kind, 0, OWN_WORDS - 1);
        }

        private void putOwnWords(String words, int first) {
            int own = first;
            long letters = 0;
            for (int i = 0; i < words.length() && own < OWN_WORDS; i++) {
                char sign = words.charAt(i);
                if (sign == ' ') {
                    ownWords[own] = letters;
                    own++;
                    letters = 0;
                } else {
                    letters = withLetter(letters, sign);
                }
            }
        }

        private void split() {
            int at = 0;
            tokens = 0;
            for (int i = 0; i < MOST_BYTES && at < length; i++) {
                int first = byteAt(at);
                if (isLetter(first)) {
                    at = splitWord(at);
                } else if (isDigit(first)) {
                    at = splitNumber(at);
                } else {
                    if (first != 32 && first != 10) {
                        putToken(SIGNS.indexOf((char) first) < 0 ? BAD : first, at, 0);
                    }
                    at++;
                }
            }
            putToken(END, length, 0);
        }

        /** The place behind the word. */
        private int splitWord(int from) {
            long letters = 0;
            int at = from;
            for (; at < length && isLetter(byteAt(at)); at++) {
                letters = at - from < LONGEST_WORD ? withLetter(letters, byteAt(at)) : letters;
            }
            putToken(at - from > LONGEST_WORD ? BAD : kindOfWord(letters), from, letters);
            return at;
        }

        /** The place behind the number. */
        private int splitNumber(int from) {
            long value = 0;
            int at = from;
            for (; at < length && isDigit(byteAt(at)); at++) {
                value = at - from < MOST_DIGITS ? value * 10 + byteAt(at) - '0' : value;
            }
            boolean bad = at - from > MOST_DIGITS || isLetter(byteAt(at));
            putToken(bad ? BAD : NUMBER, from, value);
            return at;
        }

        private int kindOfWord(long letters) {
            for (int own = 0; own < OWN_WORDS; own++) {
                if (ownWords[own] == letters) {
                    return own;
                }
            }
            return NAME;
        }

        private void putToken(int newKind, int newStart, long newWorth) {
            if (within(tokens, 0, MOST_BYTES)) {
                kinds[tokens] = newKind;
                starts[tokens] = newStart;
                worths[tokens] = newWorth;
                tokens++;
            }
        }

        private int byteAt(int at) {
            return within(at, 0, length - 1) ? text[at] : NONE;
        }

        private static long withLetter(long packed, int letter) {
            return packed * 32 + letter - 'a' + 1;
        }

        private static boolean isLetter(int sign) {
            return within(sign, 'a', 'z');
        }

        private static boolean isDigit(int sign) {
            return within(sign, '0', '9');
        }
    }

    /** THE MACHINE: what its text tells of PARTS, JOINS, MOVES, TANKS and the map. */
    private static final class Machine {
        static final int MOST_PARTS = 12;
        static final int MOST_JOINS = 16;
        static final int MOST_MOVES = 16;
        static final int MOST_TANKS = 3;
        static final int WIDTH = 8;
        static final int CELLS = 64;

        int lines;
        int parts;
        private final long[] names = new long[MOST_PARTS];
        final int[] maker = new int[MOST_PARTS];
        final int[] length = new int[MOST_PARTS];
        private final int[] growth = new int[MOST_PARTS];
        final int[] costs = new int[MOST_PARTS];
        int joins;
        final int[] left = new int[MOST_JOINS];
        final int[] right = new int[MOST_JOINS];
        final int[] gap = new int[MOST_JOINS];
        int moves;
        final int[] mover = new int[MOST_MOVES];
        final int[] moved = new int[MOST_MOVES];
        final int[] after = new int[MOST_MOVES];
        int tanks;
        final int[] tankAt = new int[MOST_TANKS];
        final int[] tankHolds = new int[MOST_TANKS];
        private int rowsTold;
        final int[] ground = new int[CELLS];

        /** Whether the tape's text is a machine; if not, this one is not to be used. */
        boolean read(Tape tape) {
            clear();
            tape.begin();
            for (lines = 0; lines < Tape.MOST_BYTES && tape.sound() && tape.kind != Tape.END; lines++) {
                readLine(tape);
            }
            return tape.sound();
        }

        int lengthAt(int part, int speed) {
            if (!within(part, 0, parts - 1)) {
                return NONE;
            }
            // The product may be above what an int holds.
            long more = (long) length[part] * growth[part] * speed * speed / 100000;
            return length[part] + (int) more;
        }

        boolean fits(int join, int speed) {
            if (!within(join, 0, joins - 1)) {
                return false;
            }
            return Math.abs(lengthAt(left[join], speed) - lengthAt(right[join], speed)) <= gap[join];
        }

        private void clear() {
            parts = 0;
            joins = 0;
            moves = 0;
            tanks = 0;
            rowsTold = 0;
            // Elsewhere a TANK that is not told is one that holds nothing.
            Arrays.fill(tankAt, 0);
            Arrays.fill(tankHolds, 0);
            Arrays.fill(ground, 0);
        }

        private void readLine(Tape tape) {
            switch (tape.kind) {
                case Tape.PART: readPart(tape); break;
                case Tape.JOIN: readJoin(tape); break;
                case Tape.MOVES: readMoves(tape); break;
                case Tape.TANK: readTank(tape); break;
                case Tape.ROW: readRow(tape); break;
                default: tape.refuse(Tape.MISPLACED); break;
            }
        }

        private void readPart(Tape tape) {
            if (parts >= MOST_PARTS) {
                tape.refuse(Tape.MISPLACED);
                return;
            }
            tape.advance();
            readNewName(tape);
            maker[parts] = tape.expectNumberBehind(Tape.BY, 0, 1);
            int drawn = tape.expectNumberBehind(Tape.LONG, 1, 999);
            length[parts] = tape.kind == Tape.INCH ? drawn * 254 / 10 : drawn * 10;
            tape.expect(tape.kind == Tape.INCH ? Tape.INCH : Tape.CM);
            growth[parts] = tape.expectNumberBehind(Tape.GROWS, 0, 99);
            costs[parts] = tape.expectNumberBehind(Tape.COSTS, 0, 999);
            tape.expect(';');
            if (tape.sound()) {
                parts++;
            }
        }

        private void readNewName(Tape tape) {
            if (tape.kind != Tape.NAME) {
                tape.refuse(Tape.MISPLACED);
            } else if (partNamed(tape.word) != NONE) {
                tape.refuse(Tape.TOLD_ALREADY);
            } else if (parts < MOST_PARTS) {
                names[parts] = tape.word;
                tape.advance();
            }
        }

        private void readJoin(Tape tape) {
            if (joins >= MOST_JOINS) {
                tape.refuse(Tape.MISPLACED);
                return;
            }
            tape.advance();
            left[joins] = readOldName(tape, NONE);
            right[joins] = readOldName(tape, left[joins]);
            gap[joins] = tape.expectNumberBehind(Tape.GAP, 0, 99);
            tape.expect(';');
            if (tape.sound()) {
                joins++;
            }
        }

        private void readMoves(Tape tape) {
            if (moves >= MOST_MOVES) {
                tape.refuse(Tape.MISPLACED);
                return;
            }
            tape.advance();
            mover[moves] = readOldName(tape, NONE);
            moved[moves] = readOldName(tape, mover[moves]);
            after[moves] = tape.expectNumberBehind(Tape.AFTER, 0, 24);
            tape.expect(';');
            if (tape.sound()) {
                moves++;
            }
        }

        private int readOldName(Tape tape, int first) {
            int part = partNamed(tape.word);
            if (tape.kind != Tape.NAME) {
                tape.refuse(Tape.MISPLACED);
            } else if (part == NONE) {
                tape.refuse(Tape.UNKNOWN);
            } else if (part == first) {
                tape.refuse(Tape.LIKE_FIRST);
            } else {
                tape.advance();
            }
            return part;
        }

        private int partNamed(long name) {
            for (int part = 0; part < parts; part++) {
                if (names[part] == name) {
                    return part;
                }
            }
            return NONE;
        }

        private void readTank(Tape tape) {
            if (tanks >= MOST_TANKS) {
                tape.refuse(Tape.MISPLACED);
                return;
            }
            tape.advance();
            tankAt[tanks] = tape.expectNumberBehind(Tape.AT, 0, 99);
            tankHolds[tanks] = tape.expectNumberBehind(Tape.HOLDS, 1, 15);
            tape.expect(';');
            if (tape.sound()) {
                tanks++;
            }
        }

        private void readRow(Tape tape) {
            tape.advance();
            if (tape.kind == Tape.NUMBER && within(tape.number, 0, WIDTH - 1)
                && (rowsTold >> tape.number & 1) == 1) {
                tape.refuse(Tape.TOLD_ALREADY);
            }
            int row = tape.expectNumber(0, WIDTH - 1);
            if (!tape.sound()) {
                return;
            }
            rowsTold |= 1 << row;
            readGrounds(tape, row);
            tape.expect(';');
        }

        private void readGrounds(Tape tape, int row) {
            if (!tape.atWord()) {
                tape.refuse(Tape.MISPLACED);
                return;
            }
            for (int x = 0; x < WIDTH; x++) {
                // A shorter word has no first letter here, which is 0.
                int letter = (int) (tape.word >> 5 * (WIDTH - 1 - x) & 31);
                if (!within(letter, 1, 8)) {
                    tape.refuse(Tape.CANNOT_BE);
                }
                setGround(row * WIDTH + x, letter - 1);
            }
            tape.advance();
        }

        private void setGround(int cell, int kind) {
            if (within(cell, 0, CELLS - 1)) {
                ground[cell] = kind;
            }
        }
    }

    /** The one PART whose other length lets most JOINS FIT. */
    private static final class Mender {
        private static final int LONGEST = 30000;

        int part;
        int length;
        int fitting;
        private int change;

        void search(Machine machine) {
            part = NONE;
            length = NONE;
            change = 0;
            fitting = fittingWith(machine, NONE, 0);
            for (int join = 0; join < machine.joins; join++) {
                tryEnds(machine, machine.left[join], machine.right[join], machine.gap[join]);
                tryEnds(machine, machine.right[join], machine.left[join], machine.gap[join]);
            }
        }

        /**
         * As a length moves away from what is drawn, more JOINS come to FIT only where the length
         * is just one gap away from another PART's: no other lengths need to be tried.
         */
        private void tryEnds(Machine machine, int changed, int other, int gap) {
            int around = machine.lengthAt(other, 0);
            tryLength(machine, changed, around - gap);
            tryLength(machine, changed, around + gap);
        }

        private void tryLength(Machine machine, int changed, int drawn) {
            int by = Math.abs(drawn - machine.lengthAt(changed, 0));
            if (by == 0 || !within(drawn, 1, LONGEST)) {
                return;
            }
            int fit = fittingWith(machine, changed, drawn);
            if (fit > fitting || fit == fitting && part != NONE && isNearer(changed, drawn, by)) {
                part = changed;
                length = drawn;
                fitting = fit;
                change = by;
            }
        }

        private boolean isNearer(int changed, int drawn, int by) {
            if (by != change) {
                return by < change;
            }
            return changed != part ? changed < part : drawn < length;
        }

        private static int fittingWith(Machine machine, int changed, int drawn) {
            int fit = 0;
            for (int join = 0; join < machine.joins; join++) {
                int left = machine.left[join];
                int right = machine.right[join];
                int leftLength = left == changed ? drawn : machine.lengthAt(left, 0);
                int rightLength = right == changed ? drawn : machine.lengthAt(right, 0);
                if (Math.abs(leftLength - rightLength) <= machine.gap[join]) {
                    fit++;
                }
            }
            return fit;
        }
    }

    /** A TREATY in one TONGUE: each line's terms stand behind one another, each sign behind its own. */
    private static final class Treaty {
        static final int MOST_BYTES = 700;
        static final int SHARE = 0;
        static final int LEAVE = Tape.LEAVE - Tape.SHARE;
        static final int FLY = Tape.FLY - Tape.SHARE;
        static final int KEEP = Tape.KEEP - Tape.SHARE;

        private static final int LINES = KEEP + 1;
        private static final int MOST_UNITS = 60;
        private static final int DEEPEST = 6;
        private static final int WORDS = Tape.PRICE - Tape.LAND + 1;
        // What binds more has a higher level.
        private static final int EITHER = 0;
        private static final int BOTH = 1;
        private static final int RELATION = 2;
        private static final int SUM = 3;
        private static final int TERM = 4;
        private static final int UNIT = 5;

        int lines;
        private int units;
        private int length;
        // A number stands as it is, a word or a sign as -1 less its kind.
        private final int[] code = new int[MOST_BYTES];
        private final int[] start = new int[LINES];
        private final int[] stop = new int[LINES];
        private final int[] stack = new int[MOST_UNITS];
        private final int[] asked = new int[WORDS];

        Treaty() {
            Arrays.fill(start, NONE);
        }

        /** Whether the tape's text is a treaty; if not, this one is not to be used. */
        boolean read(Tape tape) {
            units = 0;
            length = 0;
            Arrays.fill(start, NONE);
            tape.begin();
            for (lines = 0; lines <= LINES && tape.sound() && tape.kind != Tape.END; lines++) {
                readLine(tape);
            }
            return tape.sound();
        }

        void ask(int word, int value) {
            if (within(word, Tape.LAND, Tape.PRICE)) {
                asked[word - Tape.LAND] = value;
            }
        }

        boolean asks(int line, int word) {
            if (!isTold(line)) {
                return false;
            }
            for (int i = start[line]; i < stop[line]; i++) {
                if (code[i] == -1 - word) {
                    return true;
                }
            }
            return false;
        }

        boolean mayLeave(int month, int over) {
            ask(Tape.MONTH, month);
            ask(Tape.OVER, over);
            return valueOf(LEAVE) != 0;
        }

        boolean mayFly(int ground, int hour, int speed) {
            ask(Tape.GROUND, ground);
            ask(Tape.HOUR, hour);
            ask(Tape.SPEED, speed);
            return valueOf(FLY) != 0;
        }

        int valueOf(int line) {
            if (!isTold(line)) {
                return untold(line);
            }
            int top = 0;
            for (int i = start[line]; i < stop[line]; i++) {
                top = work(code[i], top);
            }
            return top == 1 ? stack[0] : 0;
        }

        private boolean isTold(int line) {
            return within(line, 0, LINES - 1) && start[line] != NONE;
        }

        private static int untold(int line) {
            switch (line) {
                case SHARE: return 50;
                case LEAVE: return 0;
                default: return 1;
            }
        }

        /** How high the stack is when a number, word or sign has been worked off. */
        private int work(int sign, int top) {
            int kind = -1 - sign;
            if (sign >= 0) {
                return push(sign, top);
            }
            if (within(kind, Tape.LAND, Tape.PRICE)) {
                return push(asked[kind - Tape.LAND], top);
            }
            if (kind == Tape.NOT && within(top, 1, MOST_UNITS)) {
                stack[top - 1] = stack[top - 1] == 0 ? 1 : 0;
                return top;
            }
            if (within(top, 2, MOST_UNITS)) {
                stack[top - 2] = joined(kind, stack[top - 2], stack[top - 1]);
            }
            return top - 1;
        }

        private int push(int value, int top) {
            if (top >= 0 && top < MOST_UNITS) {
                stack[top] = value;
            }
            return top + 1;
        }

        private static int joined(int sign, int a, int b) {
            switch (sign) {
                case '<': return a < b ? 1 : 0;
                case '>': return a > b ? 1 : 0;
                case '=': return a == b ? 1 : 0;
                case '+': return a + b;
                case '-': return a - b;
                case '*': return a * b;
                case Tape.AND: return a != 0 && b != 0 ? 1 : 0;
                default: return a != 0 || b != 0 ? 1 : 0;
            }
        }

        private void readLine(Tape tape) {
            int line = tape.kind - Tape.SHARE;
            if (!within(line, 0, LINES - 1) || isTold(line)) {
                tape.refuse(Tape.MISPLACED);
                return;
            }
            tape.advance();
            if (line != SHARE) {
                tape.expect(Tape.WHEN);
            }
            start[line] = length;
            readLevel(tape, line, EITHER, 0);
            stop[line] = length;
            tape.expect(';');
        }

        private void readLevel(Tape tape, int line, int level, int depth) {
            if (level == UNIT) {
                readUnit(tape, line, depth);
            } else if (level == RELATION && tape.kind == Tape.NOT) {
                readNot(tape, line, depth);
            } else {
                readJoined(tape, line, level, depth);
            }
        }

        private void readJoined(Tape tape, int line, int level, int depth) {
            int most = level == RELATION ? 1 : MOST_UNITS;
            readLevel(tape, line, level + 1, depth);
            for (int i = 0; i < most && tape.sound() && levelOf(tape.kind) == level; i++) {
                int sign = tape.kind;
                tape.advance();
                readLevel(tape, line, level + 1, depth);
                put(-1 - sign);
            }
        }

        private void readNot(Tape tape, int line, int depth) {
            if (depth > DEEPEST) {
                tape.refuse(Tape.MISPLACED);
                return;
            }
            tape.advance();
            readLevel(tape, line, RELATION, depth + 1);
            put(-1 - Tape.NOT);
        }

        private void readUnit(Tape tape, int line, int depth) {
            units++;
            if (units > MOST_UNITS) {
                tape.refuse(Tape.MISPLACED);
            } else if (tape.kind == Tape.NUMBER) {
                put(tape.number);
                tape.advance();
            } else if (mayAsk(line, tape.kind)) {
                put(-1 - tape.kind);
                tape.advance();
            } else if (within(tape.kind, Tape.LAND, Tape.PRICE)) {
                tape.refuse(Tape.NOT_TO_ASK);
            } else if (tape.kind == '(' && depth <= DEEPEST) {
                tape.advance();
                readLevel(tape, line, EITHER, depth + 1);
                tape.expect(')');
            } else {
                tape.refuse(Tape.MISPLACED);
            }
        }

        private static int levelOf(int sign) {
            switch (sign) {
                case Tape.OR: return EITHER;
                case Tape.AND: return BOTH;
                case '<':
                case '>':
                case '=': return RELATION;
                case '+':
                case '-': return SUM;
                case '*': return TERM;
                default: return NONE;
            }
        }

        private static boolean mayAsk(int line, int word) {
            boolean month = word == Tape.MONTH;
            switch (line) {
                case SHARE: return month || word == Tape.LAND || word == Tape.COST;
                case LEAVE: return month || word == Tape.OVER;
                case FLY: return within(word, Tape.GROUND, Tape.SPEED);
                default: return month || within(word, Tape.AIRLINE, Tape.PRICE);
            }
        }

        private void put(int sign) {
            if (within(length, 0, MOST_BYTES - 1)) {
                code[length] = sign;
                length++;
            }
        }
    }

    /** Where two TONGUES read otherwise; kept until a TREATY is told anew, for it is long to seek. */
    private static final class Unlike {
        private static final int UNSOUGHT = -2;
        private static final int PAIRS = TONGUES * TONGUES;

        private final int[] found = new int[2 * PAIRS];

        Unlike() {
            Arrays.fill(found, UNSOUGHT);
        }

        void forget() {
            Arrays.fill(found, UNSOUGHT);
        }

        int between(Treaty[] treaties, int a, int b, boolean fly) {
            int pair = TONGUES * a + b + (fly ? PAIRS : 0);
            if (!isTongue(a) || !isTongue(b)) {
                return NONE;
            }
            if (a != b && found[pair] == UNSOUGHT) {
                Treaty one = treaties[a];
                Treaty other = treaties[b];
                found[pair] = fly ? inFlying(one, other) : inLeaving(one, other);
            }
            return a != b ? found[pair] : NONE;
        }

        private static int inLeaving(Treaty one, Treaty other) {
            int months = tries(one, other, Treaty.LEAVE, Tape.MONTH, LAST_MONTH + 1);
            int overs = tries(one, other, Treaty.LEAVE, Tape.OVER, 100);
            for (int month = 0; month < months; month++) {
                for (int over = 0; over < overs; over++) {
                    if (one.mayLeave(month, over) != other.mayLeave(month, over)) {
                        return 100 * month + over;
                    }
                }
            }
            return NONE;
        }

        private static int inFlying(Treaty one, Treaty other) {
            int grounds = tries(one, other, Treaty.FLY, Tape.GROUND, 8);
            int hours = tries(one, other, Treaty.FLY, Tape.HOUR, 24);
            int speeds = tries(one, other, Treaty.FLY, Tape.SPEED, FASTEST + 1);
            for (int ground = 0; ground < grounds; ground++) {
                for (int hour = 0; hour < hours; hour++) {
                    for (int speed = 0; speed < speeds; speed++) {
                        if (one.mayFly(ground, hour, speed) != other.mayFly(ground, hour, speed)) {
                            return 10000 * ground + 100 * hour + speed;
                        }
                    }
                }
            }
            return NONE;
        }

        /** A word that neither asks for makes no difference: its first value will do. */
        private static int tries(Treaty one, Treaty other, int line, int word, int values) {
            return one.asks(line, word) || other.asks(line, word) ? values : 1;
        }
    }

    /** FACTS as they were TOLD and UNTOLD, and what follows from them as known at some time. */
    private static final class Facts {
        static final int CHANGE = 0;
        static final int ESTIMATE = 1;
        static final int SHOWN = 2;

        private static final int MOST = 200;
        private static final int LONGEST_WAIT = 1000;
        private static final int LAST_TIME = 100000;
        private static final int MOST_OVER = 99;

        int count;
        int time;
        private final int[] kind = new int[MOST];
        private final int[] month = new int[MOST];
        private final int[] value = new int[MOST];
        private final int[] told = new int[MOST];
        private final int[] untold = new int[MOST];
        private final int[] months = new int[Machine.MOST_PARTS];

        void forget() {
            count = 0;
        }

        int tell(int newKind, int newMonth, int newValue) {
            if (count >= MOST) {
                return NONE;
            }
            kind[count] = newKind;
            month[count] = newMonth;
            value[count] = newValue;
            told[count] = time;
            untold[count] = NONE;
            count++;
            return count - 1;
        }

        boolean takeBack(int fact) {
            if (!within(fact, 0, count - 1) || untold[fact] != NONE) {
                return false;
            }
            untold[fact] = time;
            return true;
        }

        int letPass(int by) {
            if (!within(by, 0, LONGEST_WAIT) || time + by > LAST_TIME) {
                return NONE;
            }
            time += by;
            return time;
        }

        /** Finds for each PART the month in which it MOVES, to be asked for by monthOf. */
        void findMonths(Machine machine, int k) {
            Arrays.fill(months, NONE);
            for (int fact = 0; fact < count; fact++) {
                if (kind[fact] == CHANGE && counts(fact, k)) {
                    moveBy(value[fact], month[fact]);
                }
            }
            // A least month comes through no PART twice, so that many rounds are enough.
            for (int round = 0; round < machine.parts; round++) {
                moveOthers(machine);
            }
        }

        int monthOf(int part) {
            return within(part, 0, Machine.MOST_PARTS - 1) ? months[part] : NONE;
        }

        int spent(Machine machine, int first, int last) {
            int all = 0;
            for (int part = 0; part < machine.parts; part++) {
                if (months[part] != NONE && within(months[part], first, last)) {
                    all += machine.costs[part];
                }
            }
            return all;
        }

        int paidBy(int land, Machine machine, Treaty treaty) {
            int all = 0;
            for (int part = 0; part < machine.parts; part++) {
                if (months[part] != NONE) {
                    int first = paidByFirst(machine, part, treaty);
                    all += land == 0 ? first : machine.costs[part] - first;
                }
            }
            return all;
        }

        int overrun(Machine machine, int asked, int k) {
            findMonths(machine, k);
            int estimate = estimateAt(asked, k);
            if (estimate <= 0) {
                return MOST_OVER;
            }
            return Math.min(MOST_OVER, spent(machine, 0, asked) * 10 / estimate);
        }

        int shownBy(int asked, int k) {
            int bits = 0;
            for (int fact = 0; fact < count; fact++) {
                if (kind[fact] == SHOWN && month[fact] <= asked && counts(fact, k)) {
                    bits |= value[fact];
                }
            }
            return bits;
        }

        private boolean counts(int fact, int k) {
            if (!within(fact, 0, count - 1)) {
                return false;
            }
            return told[fact] <= k && (untold[fact] == NONE || untold[fact] > k);
        }

        private void moveOthers(Machine machine) {
            for (int move = 0; move < machine.moves; move++) {
                int cause = monthOf(machine.mover[move]);
                if (cause != NONE) {
                    moveBy(machine.moved[move], cause + machine.after[move]);
                }
            }
        }

        private void moveBy(int part, int at) {
            if (within(part, 0, Machine.MOST_PARTS - 1) && (months[part] == NONE || at < months[part])) {
                months[part] = at;
            }
        }

        private int paidByFirst(Machine machine, int part, Treaty treaty) {
            int costs = machine.costs[part];
            treaty.ask(Tape.LAND, machine.maker[part]);
            treaty.ask(Tape.COST, costs);
            treaty.ask(Tape.MONTH, months[part]);
            int share = Math.max(0, Math.min(100, treaty.valueOf(Treaty.SHARE)));
            return costs * share / 100;
        }

        private int estimateAt(int asked, int k) {
            int best = NONE;
            for (int fact = 0; fact < count; fact++) {
                boolean fits = kind[fact] == ESTIMATE && month[fact] <= asked && counts(fact, k);
                if (fits && (best == NONE || month[fact] >= month[best])) {
                    best = fact;
                }
            }
            return best == NONE ? NONE : value[best];
        }
    }

    /** The FLIGHT's bounds, and its PLAN for the fuel that was asked for last. */
    private static final class Flight {
        private static final int MOST_STEPS = 12;
        private static final int MOST_BOUND = 99;
        private static final int MOST_PUMPED = 3;
        private static final int TANKS = Machine.MOST_TANKS;
        private static final int FILLS = 16;
        private static final int STATES = FILLS * FILLS;
        private static final int FAR = 1000;
        // A MOVE is the TANK that burns times BURNS, and a code of what is pumped, 0 if nothing is.
        private static final int BURNS = 100;
        private static final int FIRST_CODE = 9;
        // A state is 16 * the fuel in TANK 0 + that in TANK 1; what is left is in TANK 2.
        private static final int[] WEIGHT = {16, 1, 0};

        int steps;
        private int pump = 2;
        private int planned = NONE;
        private final int[] from = new int[MOST_STEPS];
        private final int[] to = new int[MOST_STEPS];
        // The least that is still to be pumped, by how many STEPS are done and by the state.
        private final int[][] least = new int[MOST_STEPS + 1][STATES];
        private final int[] burnt = new int[STATES];
        private final int[] fuel = new int[TANKS];

        int addStep(int lowest, int highest) {
            boolean inside = within(lowest, 0, MOST_BOUND) && within(highest, lowest, MOST_BOUND);
            if (!inside || steps >= MOST_STEPS) {
                return NONE;
            }
            from[steps] = lowest;
            to[steps] = highest;
            steps++;
            planned = NONE;
            return steps;
        }

        int dropSteps() {
            int had = steps;
            steps = 0;
            planned = NONE;
            return had;
        }

        boolean setPump(int most) {
            if (!within(most, 0, MOST_PUMPED)) {
                return false;
            }
            pump = most;
            planned = NONE;
            return true;
        }

        int leastPumped(Machine machine, int a, int b, int c) {
            if (steps == 0 || !canHold(machine, a, b, c)) {
                return NONE;
            }
            prepare(machine, a + b + c);
            int pumped = least[0][FILLS * a + b];
            return pumped >= FAR ? NONE : pumped;
        }

        int moveOf(Machine machine, int a, int b, int c, int step) {
            if (leastPumped(machine, a, b, c) == NONE || !within(step, 0, steps - 1)) {
                return NONE;
            }
            int state = FILLS * a + b;
            int move = firstMove(machine, 0, state);
            for (int done = 1; done <= step && move != NONE; done++) {
                state = stateBehind(state, move);
                move = firstMove(machine, done, state);
            }
            return move;
        }

        private static boolean canHold(Machine machine, int a, int b, int c) {
            int[] most = machine.tankHolds;
            boolean enough = a >= 0 && b >= 0 && c >= 0;
            return enough && a <= most[0] && b <= most[1] && c <= most[2];
        }

        private void prepare(Machine machine, int all) {
            if (planned == all) {
                return;
            }
            planned = all;
            for (int done = steps; done >= 0; done--) {
                findBurnt(machine, done);
                for (int state = 0; state < STATES; state++) {
                    least[done][state] = leastFrom(machine, done, state);
                }
            }
        }

        /** By state, the least still to be pumped if the next thing to do is to burn. */
        private void findBurnt(Machine machine, int done) {
            Arrays.fill(burnt, FAR);
            for (int state = 0; state < STATES && done < steps; state++) {
                boolean canBe = fill(machine, done, state);
                for (int tank = 0; tank < TANKS && canBe; tank++) {
                    if (fuel[tank] > 0) {
                        burnt[state] = Math.min(burnt[state], leastAt(done + 1, state - WEIGHT[tank]));
                    }
                }
            }
        }

        private int leastFrom(Machine machine, int done, int state) {
            if (!fill(machine, done, state) || done > 0 && !isBalanced(machine, done - 1)) {
                return FAR;
            }
            if (done == steps) {
                return 0;
            }
            int best = burnt[state];
            for (int code = FIRST_CODE; code < FIRST_CODE * Math.min(pump + 1, best); code++) {
                if (canPump(machine, code)) {
                    best = Math.min(best, code / FIRST_CODE + burntAt(pumpedState(state, code)));
                }
            }
            return best;
        }

        /** The first MOVE by which no more is pumped in all than has to be. */
        private int firstMove(Machine machine, int done, int state) {
            if (!fill(machine, done, state)) {
                return NONE;
            }
            for (int tank = 0; tank < TANKS; tank++) {
                for (int code = 0; code < FIRST_CODE * (pump + 1); code++) {
                    boolean canBe = code == 0 || canPump(machine, code);
                    if (canBe && fuelBehind(tank, code) > 0 && keepsLeast(done, state, tank, code)) {
                        return BURNS * tank + code;
                    }
                }
            }
            return NONE;
        }

        private boolean keepsLeast(int done, int state, int tank, int code) {
            int behind = leastAt(done + 1, pumpedState(state, code) - WEIGHT[tank]);
            return code / FIRST_CODE + behind == leastAt(done, state);
        }

        /** Sets the fuel of each TANK; false if the TANKS can't hold it so. */
        private boolean fill(Machine machine, int done, int state) {
            fuel[0] = state / FILLS;
            fuel[1] = state % FILLS;
            fuel[2] = planned - done - fuel[0] - fuel[1];
            return canHold(machine, fuel[0], fuel[1], fuel[2]);
        }

        private boolean isBalanced(Machine machine, int step) {
            int all = 0;
            int balance = 0;
            for (int tank = 0; tank < TANKS; tank++) {
                all += fuel[tank];
                balance += fuel[tank] * machine.tankAt[tank];
            }
            return all == 0 || within(balance, from[step] * all, to[step] * all);
        }

        private boolean canPump(Machine machine, int code) {
            int pumped = code / FIRST_CODE;
            int source = code / TANKS % TANKS;
            int target = code % TANKS;
            boolean another = pumped > 0 && source != target;
            return another && fuel[source] >= pumped
                && fuel[target] + pumped <= machine.tankHolds[target];
        }

        private int fuelBehind(int tank, int code) {
            int pumped = code / FIRST_CODE;
            int gone = code / TANKS % TANKS == tank ? pumped : 0;
            int come = code % TANKS == tank ? pumped : 0;
            return fuel[tank] - gone + come;
        }

        private static int pumpedState(int state, int code) {
            int pumped = code / FIRST_CODE;
            return state - pumped * WEIGHT[code / TANKS % TANKS] + pumped * WEIGHT[code % TANKS];
        }

        private static int stateBehind(int state, int move) {
            return pumpedState(state, move % BURNS) - WEIGHT[move / BURNS % TANKS];
        }

        private int burntAt(int state) {
            return within(state, 0, STATES - 1) ? burnt[state] : FAR;
        }

        private int leastAt(int done, int state) {
            boolean inside = within(done, 0, MOST_STEPS) && within(state, 0, STATES - 1);
            return inside ? least[done][state] : FAR;
        }
    }

    /** WAYS over the map, by what is open at one hour. */
    private static final class Ways {
        private static final int GROUNDS = 8;
        private static final int FAST = 20;
        private static final int SLOW = 9;
        private static final int FAST_MINUTES = 1;
        private static final int FAST_FUEL = 3;
        private static final int SLOW_MINUTES = 3;
        private static final int SLOW_FUEL = 2;
        // Rows are used again as soon as no entry of a CELL reaches back to them.
        private static final int ROWS = 4;
        private static final int FAR = 100000;

        private final boolean[] fast = new boolean[GROUNDS];
        private final boolean[] slow = new boolean[GROUNDS];
        // The fewest minutes by fuel burnt (its last two bits) and by CELL.
        private final int[][] minutes = new int[ROWS][Machine.CELLS];

        void open(Treaty treaty, int hour, int barred) {
            for (int ground = 0; ground < GROUNDS; ground++) {
                boolean free = (barred >> ground & 1) == 0;
                fast[ground] = free && treaty.mayFly(ground, hour, FAST);
                slow[ground] = treaty.mayFly(ground, hour, SLOW);
            }
        }

        int fewestMinutes(Machine machine, int from, int to, int fuel) {
            if (!within(from, 0, Machine.CELLS - 1) || !within(to, 0, Machine.CELLS - 1)) {
                return NONE;
            }
            for (int row = 0; row < ROWS; row++) {
                Arrays.fill(minutes[row], FAR);
            }
            minutes[0][from] = 0;
            int best = minutes[0][to];
            int burnt = 0;
            for (int f = 1; f <= fuel; f++) {
                findRow(machine, f);
                if (minutes[f % ROWS][to] < best) {
                    best = minutes[f % ROWS][to];
                    burnt = f;
                }
            }
            return best >= FAR ? NONE : 100 * best + burnt;
        }

        private void findRow(Machine machine, int fuel) {
            int row = fuel % ROWS;
            if (!within(row, 0, ROWS - 1)) {
                return;
            }
            for (int cell = 0; cell < Machine.CELLS; cell++) {
                int least = FAR;
                int ground = machine.ground[cell];
                if (within(ground, 0, GROUNDS - 1) && fast[ground]) {
                    least = beside(fuel - FAST_FUEL, cell) + FAST_MINUTES;
                }
                if (within(ground, 0, GROUNDS - 1) && slow[ground]) {
                    least = Math.min(least, beside(fuel - SLOW_FUEL, cell) + SLOW_MINUTES);
                }
                minutes[row][cell] = Math.min(least, FAR);
            }
        }

        private int beside(int fuel, int cell) {
            int x = cell % Machine.WIDTH;
            int least = FAR;
            if (x > 0) {
                least = minutesAt(fuel, cell - 1);
            }
            if (x < Machine.WIDTH - 1) {
                least = Math.min(least, minutesAt(fuel, cell + 1));
            }
            least = Math.min(least, minutesAt(fuel, cell - Machine.WIDTH));
            return Math.min(least, minutesAt(fuel, cell + Machine.WIDTH));
        }

        private int minutesAt(int fuel, int cell) {
            boolean inside = fuel >= 0 && within(cell, 0, Machine.CELLS - 1);
            return inside ? minutes[fuel % ROWS][cell] : FAR;
        }
    }

    /** AIRLINES, and how their options lapse in ROUNDS. */
    private static final class Airlines {
        private static final int MOST = 10;

        int count;
        private final int[] price = new int[MOST];
        private final int[] till = new int[MOST];
        // 0: holds to the end, NONE: did not hold at first, else the ROUND in which it lapses.
        private final int[] round = new int[MOST];

        int add(int newPrice, int newTill) {
            if (count >= MOST) {
                return NONE;
            }
            price[count] = newPrice;
            till[count] = newTill;
            count++;
            return count - 1;
        }

        void settle(Treaty treaty, int month, int shown) {
            int holding = 0;
            for (int airline = 0; airline < count; airline++) {
                boolean runs = month < till[airline];
                round[airline] = runs ? 0 : NONE;
                holding += runs ? 1 : 0;
            }
            treaty.ask(Tape.MONTH, month);
            treaty.ask(Tape.SHOWN, shown);
            for (int next = 1; next <= count; next++) {
                holding -= lapseIn(next, treaty, holding - 1);
            }
        }

        int holders() {
            int bits = 0;
            for (int airline = 0; airline < count; airline++) {
                if (round[airline] == 0) {
                    bits |= 1 << airline;
                }
            }
            return bits;
        }

        int roundOf(int airline) {
            return within(airline, 0, count - 1) ? round[airline] : NONE;
        }

        /** All lapse at once: the others are those who held when the ROUND began. */
        private int lapseIn(int now, Treaty treaty, int others) {
            int lapsed = 0;
            treaty.ask(Tape.OTHERS, others);
            for (int airline = 0; airline < count; airline++) {
                treaty.ask(Tape.AIRLINE, airline);
                treaty.ask(Tape.PRICE, price[airline]);
                if (round[airline] == 0 && treaty.valueOf(Treaty.KEEP) == 0) {
                    round[airline] = now;
                    lapsed++;
                }
            }
            return lapsed;
        }
    }

    /** WORKS: who makes which PART, as it was divided last. */
    private static final class Works {
        private static final int SETS = 1 << Machine.MOST_PARTS;
        private static final int BOTH = 2;

        int twice;
        private int divided = NONE;
        private final int[] madeBy = new int[Machine.MOST_PARTS];
        // By a set of PARTS (as bits): what it costs; the most that a part of it within room costs.
        private final int[] sum = new int[SETS];
        private final int[] most = new int[SETS];

        void forget() {
            divided = NONE;
        }

        int makerOf(int part) {
            return within(part, 0, Machine.MOST_PARTS - 1) ? madeBy[part] : NONE;
        }

        /**
         * A land has its SHARE if what the other makes alone is within what is left: so the most
         * is to be made alone, by both lands together.
         */
        void divide(Machine machine, int least) {
            if (divided == least) {
                return;
            }
            divided = least;
            int all = 0;
            for (int part = 0; part < machine.parts; part++) {
                all += machine.costs[part];
            }
            int room = (100 - least) * all / 100;
            int alone = mostAlone(machine, 0, room, room);
            twice = all - alone;
            choose(machine, room, alone);
        }

        private void choose(Machine machine, int room, int alone) {
            int first = room;
            int second = room;
            int due = alone;
            for (int part = 0; part < machine.parts; part++) {
                int cost = machine.costs[part];
                madeBy[part] = BOTH;
                if (cost <= first && cost + mostAlone(machine, part + 1, first - cost, second) == due) {
                    madeBy[part] = 0;
                    first -= cost;
                    due -= cost;
                } else if (cost <= second
                    && cost + mostAlone(machine, part + 1, first, second - cost) == due) {
                    madeBy[part] = 1;
                    second -= cost;
                    due -= cost;
                }
            }
        }

        /** The most that the PARTS from one on cost, of which each land makes some alone. */
        private int mostAlone(Machine machine, int from, int first, int second) {
            int sets = 1;
            sum[0] = 0;
            most[0] = 0;
            for (int part = from; part < machine.parts && sets < SETS; part++) {
                for (int set = 0; set < sets; set++) {
                    sum[sets + set] = sum[set] + machine.costs[part];
                }
                sets += sets;
            }
            int best = 0;
            for (int set = 0; set < sets; set++) {
                most[set] = mostWithin(set, second);
            }
            for (int set = 0; set < sets; set++) {
                if (sum[set] <= first) {
                    best = Math.max(best, sum[set] + most[sets - 1 - set]);
                }
            }
            return best;
        }

        /** The smaller sets have been looked at before. */
        private int mostWithin(int set, int room) {
            if (sum[set] <= room) {
                return sum[set];
            }
            int best = 0;
            for (int part = 0; part < Machine.MOST_PARTS; part++) {
                int bit = 1 << part;
                if ((set & bit) != 0) {
                    best = Math.max(best, most[set - bit]);
                }
            }
            return best;
        }
    }

    /** STAGES: how little money keeps them SAFE. */
    private static final class Stages {
        static final int MOST_VETOES = 6;
        static final int MOST_MONEY = 30;

        private static final int MOST = 8;
        private static final int MOST_GRANT = 9;
        private static final int MOST_SLACK = 4;
        private static final int MONEYS = MOST_MONEY + 1;
        private static final int GAMES = (MOST_SLACK + 1) * (MOST_VETOES + 1) * MONEYS;
        private static final int LOST = MOST_MONEY + 1;
        private static final int ROWS = 2;

        int count;
        private int grant;
        private int slack;
        private boolean known;
        private final int[] cost = new int[MOST];
        private final int[] tenths = new int[MOST];
        // The least money of LAND 1 that is SAFE, by WAITS and VETOES that are left and the money of
        // LAND 0; of all STAGES done only this one and the next are asked for, so two rows are enough.
        private final int[][] least = new int[ROWS][GAMES];

        int add(int newCost, int newTenths) {
            if (!within(newCost, 0, 30) || !within(newTenths, 0, 10) || count >= MOST) {
                return NONE;
            }
            cost[count] = newCost;
            tenths[count] = newTenths;
            count++;
            known = false;
            return count - 1;
        }

        boolean setGrant(int money, int most) {
            if (!within(money, 0, MOST_GRANT) || !within(most, 0, MOST_SLACK)) {
                return false;
            }
            grant = money;
            slack = most;
            known = false;
            return true;
        }

        boolean isSafe(int first, int second, int vetoes) {
            findLeast();
            return second >= leastAt(0, slack, vetoes, first);
        }

        int firstYear(int first, int second, int vetoes) {
            findLeast();
            if (count == 0) {
                return NONE;
            }
            if (second >= leastGoingOn(0, slack, vetoes, first)) {
                return 1;
            }
            return second >= leastWaiting(0, slack, vetoes, first) ? 0 : NONE;
        }

        private void findLeast() {
            if (known) {
                return;
            }
            known = true;
            for (int stage = count - 1; stage >= 0; stage--) {
                for (int game = 0; game < GAMES; game++) {
                    findGame(stage, game);
                }
            }
        }

        /** The games with fewer WAITS left stand ahead, so they have been looked at before. */
        private void findGame(int stage, int game) {
            int first = game % MONEYS;
            int vetoes = game / MONEYS % (MOST_VETOES + 1);
            int waits = game / MONEYS / (MOST_VETOES + 1);
            int goingOn = leastGoingOn(stage, waits, vetoes, first);
            least[stage % ROWS][game] = Math.min(goingOn, leastWaiting(stage, waits, vetoes, first));
        }

        private int leastGoingOn(int stage, int waits, int vetoes, int first) {
            if (!within(stage, 0, count - 1)) {
                return LOST;
            }
            int all = cost[stage];
            int share = all * tenths[stage] / 10;
            int next = stage + 1;
            int worst = all - share + leastAt(next, waits, vetoes, first - share);
            if (vetoes > 0) {
                worst = Math.max(worst, all + leastAt(next, waits, vetoes - 1, first));
                worst = Math.max(worst, leastAt(next, waits, vetoes - 1, first - all));
            }
            return Math.min(worst, LOST);
        }

        private int leastWaiting(int stage, int waits, int vetoes, int first) {
            int then = leastAt(stage, waits - 1, vetoes, Math.min(MOST_MONEY, first + grant));
            return then == LOST ? LOST : Math.max(0, then - grant);
        }

        private int leastAt(int stage, int waits, int vetoes, int first) {
            boolean inside = within(stage, 0, count) && within(waits, 0, MOST_SLACK)
                && within(vetoes, 0, MOST_VETOES) && within(first, 0, MOST_MONEY);
            if (!inside || stage == count) {
                return inside ? 0 : LOST;
            }
            return least[stage % ROWS][(waits * (MOST_VETOES + 1) + vetoes) * MONEYS + first];
        }
    }
}

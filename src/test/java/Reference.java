import java.util.ArrayDeque;
import java.util.ArrayList;
import java.util.Arrays;
import java.util.HashMap;
import java.util.List;
import java.util.Map;
import java.util.Set;
import java.util.TreeMap;

/**
 * The document written a second time, as plainly and slowly as can be, with the Java library: tests
 * hold FastPlane against it. It does nothing by the ways that FastPlane does it by.
 */
final class Reference {
    static final int NONE = -1;

    /** A fault and its place. */
    static final class Wrong extends Exception {
        private static final long serialVersionUID = 1L;
        final int code;
        final int place;

        Wrong(int code, int place) {
            super("fault " + code + " at " + place, null, false, false);
            this.code = code;
            this.place = place;
        }
    }

    record Part(String name, int by, int mm, int grows, int costs) { }

    record Link(int first, int second, int number) { }

    record Tank(int at, int holds) { }

    /** Texts, token by token. */
    static final class Text {
        static final Set<String> OWN = Set.of(("part by long cm inch grows costs join gap moves after tank at holds"
            + " row share leave fly keep when and or not land cost month over ground hour speed airline shown others"
            + " price").split(" "));
        final String text;
        int at;

        Text(String text) {
            this.text = text;
        }

        void skip() {
            while (at < text.length() && (text.charAt(at) == ' ' || text.charAt(at) == '\n')) {
                at++;
            }
        }

        int place() {
            skip();
            return at;
        }

        boolean ended() {
            skip();
            return at == text.length();
        }

        /** The token that comes, "" at the end; it stays. */
        String peek() throws Wrong {
            skip();
            if (at == text.length()) {
                return "";
            }
            String rest = text.substring(at);
            String word = rest.replaceFirst("(?s)^([a-z]*).*$", "$1");
            if (!word.isEmpty()) {
                if (word.length() > 8) {
                    throw new Wrong(1, at);
                }
                return word;
            }
            String digits = rest.replaceFirst("(?s)^([0-9]*).*$", "$1");
            if (!digits.isEmpty()) {
                if (digits.length() > 4 || rest.substring(digits.length()).matches("(?s)[a-z].*")) {
                    throw new Wrong(1, at);
                }
                return digits;
            }
            if (";()<>=+-*".indexOf(rest.charAt(0)) < 0) {
                throw new Wrong(1, at);
            }
            return rest.substring(0, 1);
        }

        String next() throws Wrong {
            String token = peek();
            at += token.length();
            return token;
        }

        void want(String token) throws Wrong {
            int place = place();
            if (!next().equals(token)) {
                throw new Wrong(2, place);
            }
        }

        boolean isNumber() throws Wrong {
            return peek().matches("[0-9]+");
        }

        boolean isWord() throws Wrong {
            return peek().matches("[a-z]+");
        }

        int number(int low, int high) throws Wrong {
            int place = place();
            if (!isNumber()) {
                throw new Wrong(2, place);
            }
            int number = Integer.parseInt(next());
            if (number < low || number > high) {
                throw new Wrong(4, place);
            }
            return number;
        }

        String name() throws Wrong {
            int place = place();
            if (!isWord() || OWN.contains(peek())) {
                throw new Wrong(2, place);
            }
            return next();
        }
    }

    static final class Machine {
        final List<Part> parts = new ArrayList<>();
        final List<Link> joins = new ArrayList<>();
        final List<Link> moves = new ArrayList<>();
        final List<Tank> tanks = new ArrayList<>();
        final Map<Integer, String> rows = new HashMap<>();
        int lines;

        static Machine of(String source) throws Wrong {
            Machine machine = new Machine();
            Text text = new Text(source);
            while (!text.ended()) {
                machine.line(text);
                machine.lines++;
            }
            return machine;
        }

        private void line(Text text) throws Wrong {
            int place = text.place();
            String first = text.next();
            switch (first) {
                case "part" -> {
                    room(parts.size(), 12, place);
                    part(text);
                }
                case "join" -> {
                    room(joins.size(), 16, place);
                    joins.add(link(text, "gap", 99));
                }
                case "moves" -> {
                    room(moves.size(), 16, place);
                    moves.add(link(text, "after", 24));
                }
                case "tank" -> {
                    room(tanks.size(), 3, place);
                    text.want("at");
                    int at = text.number(0, 99);
                    text.want("holds");
                    tanks.add(new Tank(at, text.number(1, 15)));
                }
                case "row" -> row(text);
                default -> throw new Wrong(2, place);
            }
            text.want(";");
        }

        private static void room(int has, int most, int place) throws Wrong {
            if (has == most) {
                throw new Wrong(2, place);
            }
        }

        private void part(Text text) throws Wrong {
            int place = text.place();
            String name = text.name();
            if (find(name) >= 0) {
                throw new Wrong(3, place);
            }
            text.want("by");
            int by = text.number(0, 1);
            text.want("long");
            int drawn = text.number(1, 999);
            int unit = text.place();
            String measure = text.next();
            if (!measure.equals("cm") && !measure.equals("inch")) {
                throw new Wrong(2, unit);
            }
            text.want("grows");
            int grows = text.number(0, 99);
            text.want("costs");
            int costs = text.number(0, 999);
            parts.add(new Part(name, by, measure.equals("cm") ? 10 * drawn : 254 * drawn / 10, grows, costs));
        }

        private Link link(Text text, String word, int most) throws Wrong {
            int first = known(text);
            int place = text.place();
            int second = known(text);
            if (first == second) {
                throw new Wrong(6, place);
            }
            text.want(word);
            return new Link(first, second, text.number(0, most));
        }

        private int known(Text text) throws Wrong {
            int place = text.place();
            int part = find(text.name());
            if (part < 0) {
                throw new Wrong(5, place);
            }
            return part;
        }

        private int find(String name) {
            for (int i = 0; i < parts.size(); i++) {
                if (parts.get(i).name().equals(name)) {
                    return i;
                }
            }
            return NONE;
        }

        private void row(Text text) throws Wrong {
            int place = text.place();
            int row = text.number(0, 7);
            if (rows.containsKey(row)) {
                throw new Wrong(3, place);
            }
            place = text.place();
            if (!text.isWord()) {
                throw new Wrong(2, place);
            }
            String word = text.next();
            if (!word.matches("[a-h]{8}")) {
                throw new Wrong(4, place);
            }
            rows.put(row, word);
        }

        int ground(int cell) {
            return rows.getOrDefault(cell / 8, "aaaaaaaa").charAt(cell % 8) - 'a';
        }

        int mm(int part, int speed) {
            Part p = parts.get(part);
            return p.mm() + (int) ((long) p.mm() * p.grows() * speed * speed / 100000);
        }

        boolean fits(Link join, int speed) {
            return Math.abs(mm(join.first(), speed) - mm(join.second(), speed)) <= join.number();
        }

        int tankAt(int tank) {
            return tank < tanks.size() ? tanks.get(tank).at() : 0;
        }

        int tankHolds(int tank) {
            return tank < tanks.size() ? tanks.get(tank).holds() : 0;
        }
    }

    /** What a term is worth by the words it asks for. */
    interface Term {
        int worth(Map<String, Integer> words);
    }

    static final class Treaty {
        final Map<String, Term> terms = new TreeMap<>();
        private final Text text;
        private int units;
        private Set<String> askable = Set.of();

        private Treaty(String source) {
            text = new Text(source);
        }

        static Treaty of(String source) throws Wrong {
            Treaty treaty = new Treaty(source);
            while (!treaty.text.ended()) {
                treaty.line();
            }
            return treaty;
        }

        private void line() throws Wrong {
            int place = text.place();
            String first = text.next();
            if (terms.containsKey(first)) {
                throw new Wrong(2, place);
            }
            askable = switch (first) {
                case "share" -> Set.of("land", "cost", "month");
                case "leave" -> Set.of("month", "over");
                case "fly" -> Set.of("ground", "hour", "speed");
                case "keep" -> Set.of("airline", "shown", "others", "price", "month");
                default -> throw new Wrong(2, place);
            };
            if (!first.equals("share")) {
                text.want("when");
            }
            Term term = e(0);
            text.want(";");
            terms.put(first, term);
        }

        private static int bit(boolean holds) {
            return holds ? 1 : 0;
        }

        private Term e(int within) throws Wrong {
            Term left = both(within);
            while (text.peek().equals("or")) {
                text.next();
                Term a = left;
                Term b = both(within);
                left = w -> bit(a.worth(w) != 0 | b.worth(w) != 0);
            }
            return left;
        }

        private Term both(int within) throws Wrong {
            Term left = one(within);
            while (text.peek().equals("and")) {
                text.next();
                Term a = left;
                Term b = one(within);
                left = w -> bit(a.worth(w) != 0 & b.worth(w) != 0);
            }
            return left;
        }

        private Term one(int within) throws Wrong {
            int place = text.place();
            if (text.peek().equals("not")) {
                text.next();
                if (within > 6) {
                    throw new Wrong(2, place);
                }
                Term inner = one(within + 1);
                return w -> bit(inner.worth(w) == 0);
            }
            Term a = sum(within);
            String relation = text.peek();
            if (!relation.equals("<") && !relation.equals(">") && !relation.equals("=")) {
                return a;
            }
            text.next();
            Term b = sum(within);
            return switch (relation) {
                case "<" -> w -> bit(a.worth(w) < b.worth(w));
                case ">" -> w -> bit(a.worth(w) > b.worth(w));
                default -> w -> bit(a.worth(w) == b.worth(w));
            };
        }

        private Term sum(int within) throws Wrong {
            Term left = term(within);
            while (text.peek().equals("+") || text.peek().equals("-")) {
                boolean plus = text.next().equals("+");
                Term a = left;
                Term b = term(within);
                left = plus ? w -> a.worth(w) + b.worth(w) : w -> a.worth(w) - b.worth(w);
            }
            return left;
        }

        private Term term(int within) throws Wrong {
            Term left = unit(within);
            while (text.peek().equals("*")) {
                text.next();
                Term a = left;
                Term b = unit(within);
                left = w -> a.worth(w) * b.worth(w);
            }
            return left;
        }

        private Term unit(int within) throws Wrong {
            int place = text.place();
            String token = text.next();
            if (++units > 60) {
                throw new Wrong(2, place);
            }
            if (token.matches("[0-9]+")) {
                int number = Integer.parseInt(token);
                return w -> number;
            }
            if (token.equals("(")) {
                if (within > 6) {
                    throw new Wrong(2, place);
                }
                Term inner = e(within + 1);
                text.want(")");
                return inner;
            }
            if (askable.contains(token)) {
                return w -> w.get(token);
            }
            boolean word = Set.of("land", "cost", "month", "over", "ground", "hour", "speed", "airline", "shown",
                "others", "price").contains(token);
            throw new Wrong(word ? 7 : 2, place);
        }

        int worth(String line, int untold, Map<String, Integer> words) {
            Term term = terms.get(line);
            return term == null ? untold : term.worth(words);
        }

        boolean leaves(int month, int over) {
            return worth("leave", 0, Map.of("month", month, "over", over)) != 0;
        }

        boolean flies(int ground, int hour, int speed) {
            return worth("fly", 1, Map.of("ground", ground, "hour", hour, "speed", speed)) != 0;
        }
    }

    private record Fact(String kind, int month, int value, int told, int[] untold) {
        boolean counts(int k) {
            return told <= k && !(untold.length > 0 && untold[0] >= 0 && untold[0] <= k);
        }
    }

    Machine machine = new Machine();
    final Treaty[] treaties = {new Treaty(""), new Treaty(""), new Treaty("")};
    private final List<Fact> facts = new ArrayList<>();
    private final List<int[]> steps = new ArrayList<>();
    private final List<int[]> airlines = new ArrayList<>();
    private final List<int[]> stages = new ArrayList<>();
    private int time;
    private int pump = 2;
    private int grant;
    private int slack;
    private int fault;
    private int place = NONE;

    private static boolean in(int n, int low, int high) {
        return low <= n && n <= high;
    }

    int machine(String text) {
        try {
            Machine told = Machine.of(text);
            machine = told;
            facts.clear();
            steps.clear();
            fault = 0;
            place = NONE;
            return told.lines;
        } catch (Wrong wrong) {
            fault = wrong.code;
            place = wrong.place;
            return NONE;
        }
    }

    int treaty(int tongue, String text) {
        if (!in(tongue, 0, 2) || text.length() > 700) {
            return -2;
        }
        try {
            treaties[tongue] = Treaty.of(text);
            fault = 0;
            place = NONE;
            return treaties[tongue].terms.size();
        } catch (Wrong wrong) {
            fault = wrong.code;
            place = wrong.place;
            return NONE;
        }
    }

    int fault(int what) {
        return what == 0 ? fault : what == 1 ? place : NONE;
    }

    private boolean isPart(int part) {
        return in(part, 0, machine.parts.size() - 1);
    }

    int mm(int part, int speed) {
        return isPart(part) && in(speed, 0, 30) ? machine.mm(part, speed) : NONE;
    }

    int clash(int speed) {
        if (!in(speed, 0, 30)) {
            return NONE;
        }
        int bits = 0;
        for (int i = 0; i < machine.joins.size(); i++) {
            bits += machine.fits(machine.joins.get(i), speed) ? 0 : 1 << i;
        }
        return bits;
    }

    int breaks(int join) {
        if (!in(join, 0, machine.joins.size() - 1)) {
            return NONE;
        }
        int speed = 0;
        while (speed <= 30 && machine.fits(machine.joins.get(join), speed)) {
            speed++;
        }
        return speed == 31 ? NONE : speed;
    }

    /** Every part with every length. */
    int mend(int what) {
        int now = machine.joins.size() - Integer.bitCount(clash(0));
        int[] best = null;
        for (int part = 0; part < machine.parts.size(); part++) {
            int has = machine.mm(part, 0);
            for (int mm = 1; mm <= 30000; mm++) {
                int fit = 0;
                for (Link join : machine.joins) {
                    int a = join.first() == part ? mm : machine.mm(join.first(), 0);
                    int b = join.second() == part ? mm : machine.mm(join.second(), 0);
                    fit += Math.abs(a - b) <= join.number() ? 1 : 0;
                }
                int[] key = {-fit, Math.abs(mm - has), part, mm};
                if (mm != has && fit > now && (best == null || Arrays.compare(key, best) < 0)) {
                    best = key;
                }
            }
        }
        if (best == null || !in(what, 0, 2)) {
            return NONE;
        }
        return what == 0 ? best[2] : what == 1 ? best[3] : -best[0];
    }

    int unlike(int a, int b, boolean fly) {
        if (!in(a, 0, 2) || !in(b, 0, 2)) {
            return NONE;
        }
        Treaty one = treaties[a];
        Treaty other = treaties[b];
        if (!fly) {
            for (int n = 0; n < 20000; n++) {
                if (one.leaves(n / 100, n % 100) != other.leaves(n / 100, n % 100)) {
                    return n;
                }
            }
            return NONE;
        }
        for (int n = 0; n < 80000; n++) {
            int hour = n / 100 % 100;
            int speed = n % 100;
            if (hour < 24 && speed < 31
                && one.flies(n / 10000, hour, speed) != other.flies(n / 10000, hour, speed)) {
                return n;
            }
        }
        return NONE;
    }

    private int tell(boolean canBe, String kind, int month, int value) {
        if (!canBe || !in(month, 0, 199) || facts.size() == 200) {
            return NONE;
        }
        facts.add(new Fact(kind, month, value, time, new int[] {NONE}));
        return facts.size() - 1;
    }

    int change(int part, int month) {
        return tell(isPart(part), "change", month, part);
    }

    int estimate(int month, int cost) {
        return tell(in(cost, 0, 99999), "estimate", month, cost);
    }

    int show(int month, int bits) {
        return tell(in(bits, 1, 255), "show", month, bits);
    }

    boolean untell(int fact) {
        if (!in(fact, 0, facts.size() - 1) || facts.get(fact).untold()[0] != NONE) {
            return false;
        }
        facts.get(fact).untold()[0] = time;
        return true;
    }

    int later(int by) {
        if (!in(by, 0, 1000) || time + by > 100000) {
            return NONE;
        }
        return time += by;
    }

    /** By whoever moves soonest of those that have not been taken yet. */
    private Map<Integer, Integer> months(int k) {
        Map<Integer, Integer> due = new HashMap<>();
        for (Fact fact : facts) {
            if (fact.kind().equals("change") && fact.counts(k)) {
                due.merge(fact.value(), fact.month(), Math::min);
            }
        }
        Map<Integer, Integer> taken = new HashMap<>();
        while (!due.isEmpty()) {
            int part = due.entrySet().stream().min(Map.Entry.comparingByValue()).orElseThrow().getKey();
            int month = due.remove(part);
            taken.put(part, month);
            for (Link move : machine.moves) {
                if (move.first() == part && !taken.containsKey(move.second())) {
                    due.merge(move.second(), month + move.number(), Math::min);
                }
            }
        }
        return taken;
    }

    int moves(int part, int k) {
        return isPart(part) ? months(k).getOrDefault(part, NONE) : NONE;
    }

    private int spent(int first, int last, int k) {
        return months(k).entrySet().stream().filter(e -> in(e.getValue(), first, last))
            .mapToInt(e -> machine.parts.get(e.getKey()).costs()).sum();
    }

    int cost(int month, int k) {
        return in(month, 0, 999) ? spent(month, month, k) : NONE;
    }

    int pays(int land, int tongue, int k) {
        if (!in(land, 0, 1) || !in(tongue, 0, 2)) {
            return NONE;
        }
        int[] pays = new int[2];
        months(k).forEach((number, month) -> {
            Part part = machine.parts.get(number);
            int share = treaties[tongue].worth("share", 50,
                Map.of("land", part.by(), "cost", part.costs(), "month", month));
            int first = part.costs() * (share < 0 ? 0 : share > 100 ? 100 : share) / 100;
            pays[0] += first;
            pays[1] += part.costs() - first;
        });
        return pays[land];
    }

    int over(int month, int k) {
        if (!in(month, 0, 199)) {
            return NONE;
        }
        for (int m = month; m >= 0; m--) {
            for (int i = facts.size() - 1; i >= 0; i--) {
                Fact fact = facts.get(i);
                if (fact.kind().equals("estimate") && fact.month() == m && fact.counts(k)) {
                    return fact.value() == 0 ? 99 : Math.min(99, spent(0, month, k) * 10 / fact.value());
                }
            }
        }
        return 99;
    }

    int leave(int month, int tongue, int k) {
        if (!in(month, 0, 199) || !in(tongue, 0, 2)) {
            return NONE;
        }
        return treaties[tongue].leaves(month, over(month, k)) ? 1 : 0;
    }

    int bounds(int from, int to) {
        if (from < 0 || to > 99 || to < from || steps.size() == 12) {
            return NONE;
        }
        steps.add(new int[] {from, to});
        return steps.size();
    }

    int land() {
        int had = steps.size();
        steps.clear();
        return had;
    }

    boolean pump(int most) {
        pump = in(most, 0, 3) ? most : pump;
        return in(most, 0, 3);
    }

    private record Planned(int pumped, int move, Planned rest) { }

    private final Map<List<Integer>, Planned> plans = new HashMap<>();

    /** The best plan from a step on: tries every move in its order. */
    private Planned best(int step, int... fuel) {
        if (step == steps.size()) {
            return new Planned(0, NONE, null);
        }
        List<Integer> key = List.of(step, fuel[0], fuel[1], fuel[2]);
        if (plans.containsKey(key)) {
            return plans.get(key);
        }
        Planned best = null;
        for (int move = 0; move < 300; move++) {
            int pumped = move % 100 / 9;
            int code = move % 100 - 9 * pumped;
            int from = code / 3;
            int to = code % 3;
            if (pumped > pump || (pumped == 0 ? code != 0 : from == to)) {
                continue;
            }
            int[] then = fuel.clone();
            then[from] -= pumped;
            then[to] += pumped;
            if (then[from] < 0 || then[to] > machine.tankHolds(to) || --then[move / 100] < 0) {
                continue;
            }
            int all = then[0] + then[1] + then[2];
            int balance = 0;
            for (int tank = 0; tank < 3; tank++) {
                balance += then[tank] * machine.tankAt(tank);
            }
            if (all > 0 && (balance < steps.get(step)[0] * all || balance > steps.get(step)[1] * all)) {
                continue;
            }
            Planned rest = best(step + 1, then);
            if (rest != null && (best == null || rest.pumped() + pumped < best.pumped())) {
                best = new Planned(rest.pumped() + pumped, move, rest);
            }
        }
        plans.put(key, best);
        return best;
    }

    private Planned planned(int... fuel) {
        for (int tank = 0; tank < 3; tank++) {
            if (!in(fuel[tank], 0, machine.tankHolds(tank))) {
                return null;
            }
        }
        plans.clear();
        return steps.isEmpty() ? null : best(0, fuel);
    }

    int plan(int a, int b, int c) {
        Planned plan = planned(a, b, c);
        return plan == null ? NONE : plan.pumped();
    }

    int move(int a, int b, int c, int step) {
        Planned plan = planned(a, b, c);
        if (plan == null || !in(step, 0, steps.size() - 1)) {
            return NONE;
        }
        for (int i = 0; i < step; i++) {
            plan = plan.rest();
        }
        return plan.move();
    }

    /** Goes on from each cell with each fuel as long as anything gets better. */
    int soonest(int from, int to, int tongue, int hour, int barred, int fuel) {
        if (!in(from, 0, 63) || !in(to, 0, 63) || !in(tongue, 0, 2) || !in(hour, 0, 23) || !in(barred, 0, 255)
            || !in(fuel, 0, 99)) {
            return NONE;
        }
        boolean[] fast = new boolean[8];
        boolean[] slow = new boolean[8];
        for (int g = 0; g < 8; g++) {
            fast[g] = (barred & 1 << g) == 0 && treaties[tongue].flies(g, hour, 20);
            slow[g] = treaties[tongue].flies(g, hour, 9);
        }
        int[][] minutes = new int[64][fuel + 1];
        for (int[] row : minutes) {
            Arrays.fill(row, 9999);
        }
        minutes[from][0] = 0;
        ArrayDeque<int[]> open = new ArrayDeque<>();
        open.add(new int[] {from, 0});
        while (!open.isEmpty()) {
            int[] at = open.remove();
            for (int cell = 0; cell < 64; cell++) {
                if (Math.abs(cell % 8 - at[0] % 8) + Math.abs(cell / 8 - at[0] / 8) != 1) {
                    continue;
                }
                int now = minutes[at[0]][at[1]];
                int ground = machine.ground(cell);
                if (fast[ground] && at[1] + 3 <= fuel && now + 1 < minutes[cell][at[1] + 3]) {
                    minutes[cell][at[1] + 3] = now + 1;
                    open.add(new int[] {cell, at[1] + 3});
                }
                if (slow[ground] && at[1] + 2 <= fuel && now + 3 < minutes[cell][at[1] + 2]) {
                    minutes[cell][at[1] + 2] = now + 3;
                    open.add(new int[] {cell, at[1] + 2});
                }
            }
        }
        int best = Integer.MAX_VALUE;
        for (int f = 0; f <= fuel; f++) {
            best = Math.min(best, 100 * minutes[to][f] + f);
        }
        return best >= 999900 ? NONE : best;
    }

    int airline(int price, int month) {
        if (!in(price, 0, 999) || !in(month, 0, 199) || airlines.size() == 10) {
            return NONE;
        }
        airlines.add(new int[] {price, month});
        return airlines.size() - 1;
    }

    private int[] rounds(int month, int tongue, int k) {
        int shown = 0;
        for (Fact fact : facts) {
            if (fact.kind().equals("show") && fact.counts(k) && fact.month() <= month) {
                shown |= fact.value();
            }
        }
        int[] lapsed = new int[airlines.size()];
        for (int i = 0; i < lapsed.length; i++) {
            lapsed[i] = airlines.get(i)[1] > month ? 0 : NONE;
        }
        for (int round = 1; ; round++) {
            int[] then = lapsed.clone();
            int holders = (int) Arrays.stream(lapsed).filter(r -> r == 0).count();
            for (int i = 0; i < lapsed.length; i++) {
                Map<String, Integer> words = Map.of("airline", i, "shown", shown, "others", holders - 1,
                    "price", airlines.get(i)[0], "month", month);
                if (lapsed[i] == 0 && treaties[tongue].worth("keep", 1, words) == 0) {
                    then[i] = round;
                }
            }
            if (Arrays.equals(then, lapsed)) {
                return lapsed;
            }
            lapsed = then;
        }
    }

    int hold(int month, int tongue, int k) {
        if (!in(month, 0, 199) || !in(tongue, 0, 2)) {
            return NONE;
        }
        int[] rounds = rounds(month, tongue, k);
        int bits = 0;
        for (int i = 0; i < rounds.length; i++) {
            bits |= rounds[i] == 0 ? 1 << i : 0;
        }
        return bits;
    }

    int lapse(int airline, int month, int tongue, int k) {
        if (!in(airline, 0, airlines.size() - 1) || !in(month, 0, 199) || !in(tongue, 0, 2)) {
            return NONE;
        }
        return rounds(month, tongue, k)[airline];
    }

    /** Every way to share the parts, in the order of the first part by part. */
    private int[] works(int least) {
        int n = machine.parts.size();
        int all = machine.parts.stream().mapToInt(Part::costs).sum();
        int ways = (int) Math.round(Math.pow(3, n));
        int[] best = null;
        for (int way = 0; way < ways; way++) {
            int[] makers = new int[n + 1];
            int rest = way;
            int first = 0;
            int second = 0;
            for (int i = n - 1; i >= 0; i--) {
                makers[i] = rest % 3;
                rest /= 3;
                first += makers[i] == 1 ? 0 : machine.parts.get(i).costs();
                second += makers[i] == 0 ? 0 : machine.parts.get(i).costs();
            }
            makers[n] = first + second - all;
            if (first * 100 >= least * all && second * 100 >= least * all
                && (best == null || makers[n] < best[n])) {
                best = makers;
            }
        }
        return best;
    }

    int shared(int least) {
        return in(least, 0, 100) ? works(least)[machine.parts.size()] : NONE;
    }

    int maker(int part, int least) {
        return in(least, 0, 100) && isPart(part) ? works(least)[part] : NONE;
    }

    int stage(int cost, int part) {
        if (!in(cost, 0, 30) || !in(part, 0, 10) || stages.size() == 8) {
            return NONE;
        }
        stages.add(new int[] {cost, part});
        return stages.size() - 1;
    }

    boolean grant(int money, int most) {
        boolean canBe = in(money, 0, 9) && in(most, 0, 4);
        grant = canBe ? money : grant;
        slack = canBe ? most : slack;
        return canBe;
    }

    private final Map<List<Integer>, Boolean> games = new HashMap<>();

    private boolean game(int stage, int waited, int vetoes, int a, int b) {
        if (a < 0 || b < 0) {
            return false;
        }
        if (stage == stages.size()) {
            return true;
        }
        List<Integer> key = List.of(stage, waited, vetoes, a, b);
        Boolean known = games.get(key);
        if (known == null) {
            known = goesOn(stage, waited, vetoes, a, b) || waits(stage, waited, vetoes, a, b);
            games.put(key, known);
        }
        return known;
    }

    private boolean goesOn(int stage, int waited, int vetoes, int a, int b) {
        int all = stages.get(stage)[0];
        int share = all * stages.get(stage)[1] / 10;
        return game(stage + 1, waited, vetoes, a - share, b - (all - share))
            && (vetoes == 0 || game(stage + 1, waited, vetoes - 1, a, b - all)
                && game(stage + 1, waited, vetoes - 1, a - all, b));
    }

    private boolean waits(int stage, int waited, int vetoes, int a, int b) {
        return waited < slack && game(stage, waited + 1, vetoes, Math.min(30, a + grant), Math.min(30, b + grant));
    }

    int safe(int first, int second, int vetoes) {
        if (!in(first, 0, 30) || !in(second, 0, 30) || !in(vetoes, 0, 6)) {
            return NONE;
        }
        games.clear();
        return game(0, 0, vetoes, first, second) ? 1 : 0;
    }

    int bears(int first, int second) {
        int most = NONE;
        for (int vetoes = 0; vetoes <= 6; vetoes++) {
            most = safe(first, second, vetoes) == 1 ? vetoes : most;
        }
        return most;
    }

    int should(int first, int second, int vetoes) {
        if (safe(first, second, vetoes) != 1 || stages.isEmpty()) {
            return NONE;
        }
        return goesOn(0, 0, vetoes, first, second) ? 1 : 0;
    }

    int about(int what) {
        return switch (what) {
            case 0 -> machine.parts.size();
            case 1 -> machine.joins.size();
            case 2 -> machine.moves.size();
            case 3 -> machine.tanks.size();
            case 4 -> facts.size();
            case 5 -> steps.size();
            case 6 -> airlines.size();
            case 7 -> time;
            case 9 -> stages.size();
            case 10, 11, 12 -> treaties[what - 10].terms.size();
            default -> NONE;
        };
    }
}

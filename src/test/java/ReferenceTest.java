import java.util.Random;

/** Runs of drawn calls, held against Reference; the same ones each time, for the draw has a seed. */
public final class ReferenceTest {
    private static final int RUNS = 400;
    private static final int ROUNDS = 90;
    // An object is used for 512 calls at most; a round and the end take fewer than 110.
    private static final int MOST_CALLS = 400;
    private static final Check check = new Check("ReferenceTest");

    private final Random random;
    private final Drawn drawn;
    private final FastPlane plane = new FastPlane();
    private final Reference reference = new Reference();
    private final String run;
    private final int[] begun = new int[3];
    private int theme;
    private int calls;

    private ReferenceTest(int seed) {
        random = new Random(seed);
        drawn = new Drawn(random);
        run = "run " + seed + ": ";
    }

    public static void main(String[] args) {
        int runs = args.length > 1 ? Integer.parseInt(args[1]) : RUNS;
        int first = args.length > 2 ? Integer.parseInt(args[2]) : 0;
        for (int seed = first; seed < first + runs && !check.failed(); seed++) {
            new ReferenceTest(seed).calls();
        }
        check.finish();
    }

    private void calls() {
        machine(drawn.machine());
        for (int tongue = 0; tongue < 3; tongue++) {
            if (chance(3)) {
                treaty(tongue, drawn.treaty());
            }
        }
        theme = random.nextInt(6);
        for (int i = 0; i < ROUNDS && calls < MOST_CALLS && !check.failed(); i++) {
            call(chance(3) ? 6 + random.nextInt(3) : theme);
        }
        for (int what = -1; what <= 13; what++) {
            if (what != 8) {
                due("about(" + what + ")", plane.about(what), reference.about(what));
            }
        }
    }

    private void call(int kind) {
        switch (kind) {
            case 0 -> drawing();
            case 1 -> facts();
            case 2 -> flight();
            case 3 -> ways();
            case 4 -> airlines();
            case 5 -> stages();
            case 6 -> works();
            case 7 -> texts();
            default -> unlike();
        }
    }

    private boolean chance(int of) {
        return random.nextInt(of) > 0;
    }

    /** Mostly one from low to high, now and then one just beside or far off. */
    private int any(int low, int high) {
        int far = random.nextInt(60);
        return switch (far) {
            case 0 -> low - 1;
            case 1 -> high + 1;
            case 2 -> random.nextInt();
            case 3, 4 -> low;
            case 5, 6 -> high;
            default -> low + random.nextInt(high - low + 1);
        };
    }

    private int time() {
        return any(0, Math.max(1, reference.about(7)));
    }

    private void due(String call, long got, long want) {
        calls++;
        check.due(run + call, got, want);
    }

    private void due(String call, boolean got, boolean want) {
        calls++;
        check.due(run + call, got, want);
    }

    private void machine(String text) {
        String shown = "machine(" + text + ")";
        due(shown, Check.machine(plane, text), reference.machine(text));
        fault(shown);
    }

    private void treaty(int tongue, String text) {
        String shown = "treaty(" + tongue + ", " + text + ")";
        due(shown, Check.treaty(plane, tongue, text), reference.treaty(tongue, text));
        fault(shown);
        plane.end(0);
    }

    private void fault(String of) {
        calls += of.length() / 20 + 3;
        due("fault(0) of " + of, plane.fault(0), reference.fault(0));
        due("fault(1) of " + of, plane.fault(1), reference.fault(1));
    }

    private void texts() {
        int kind = random.nextInt(12);
        if (kind == 0) {
            machine(drawn.machine());
        } else if (kind < 4) {
            machine(drawn.broken(drawn.machine()) + "?");
        } else if (kind < 6) {
            treaty(random.nextInt(3), drawn.broken(drawn.treaty()));
        } else {
            treaty(any(0, 2), drawn.treaty());
        }
    }

    private void unlike() {
        int a = any(0, 2);
        int b = any(0, 2);
        boolean fly = random.nextBoolean();
        due("unlike(" + a + ", " + b + ", " + fly + ")", plane.unlike(a, b, fly), reference.unlike(a, b, fly));
    }

    private void drawing() {
        int part = any(0, 11);
        int speed = any(0, 30);
        int join = any(0, 15);
        due("mm(" + part + ", " + speed + ")", plane.mm(part, speed), reference.mm(part, speed));
        due("clash(" + speed + ")", plane.clash(speed), reference.clash(speed));
        due("breaks(" + join + ")", plane.breaks(join), reference.breaks(join));
        if (random.nextInt(40) == 0) {
            int what = any(0, 2);
            due("mend(" + what + ")", plane.mend(what), reference.mend(what));
        }
    }

    private void facts() {
        int month = any(0, 199);
        if (chance(2)) {
            month = any(0, 30);
        }
        int part = any(0, Math.max(1, reference.about(0)));
        int tongue = any(0, 2);
        int k = time();
        switch (random.nextInt(12)) {
            case 0, 1 -> due("change(" + part + ", " + month + ")", plane.change(part, month),
                reference.change(part, month));
            case 2 -> {
                int cost = chance(3) ? any(0, 500) : any(0, 99999);
                due("estimate(" + month + ", " + cost + ")", plane.estimate(month, cost),
                    reference.estimate(month, cost));
            }
            case 3 -> {
                int fact = any(0, Math.max(1, reference.about(4)));
                due("untell(" + fact + ")", plane.untell(fact), reference.untell(fact));
            }
            case 4 -> later();
            case 5 -> due("moves(" + part + ", " + k + ")", plane.moves(part, k), reference.moves(part, k));
            case 6 -> {
                int far = any(0, 999);
                due("cost(" + far + ", " + k + ")", plane.cost(far, k), reference.cost(far, k));
            }
            case 7 -> due("cost(" + month + ", " + k + ")", plane.cost(month, k), reference.cost(month, k));
            case 8, 9 -> {
                int land = any(0, 1);
                due("pays(" + land + ", " + tongue + ", " + k + ")", plane.pays(land, tongue, k),
                    reference.pays(land, tongue, k));
            }
            case 10 -> due("over(" + month + ", " + k + ")", plane.over(month, k), reference.over(month, k));
            default -> due("leave(" + month + ", " + tongue + ", " + k + ")", plane.leave(month, tongue, k),
                reference.leave(month, tongue, k));
        }
    }

    private void later() {
        int by = chance(2) ? any(0, 3) : any(0, 1000);
        due("later(" + by + ")", plane.later(by), reference.later(by));
    }

    private void flight() {
        int kind = random.nextInt(12);
        if (kind == 0 || reference.about(5) == 0) {
            newFlight();
        } else if (kind == 1) {
            int from = any(0, 60);
            int to = any(0, 99);
            due("bounds(" + from + ", " + to + ")", plane.bounds(from, to), reference.bounds(from, to));
        } else if (kind == 2) {
            int most = any(0, 3);
            due("pump(" + most + ")", plane.pump(most), reference.pump(most));
        } else {
            plan();
        }
    }

    /** Bounds about what comes of drawn moves, so that there mostly is a plan. */
    private void newFlight() {
        due("land()", plane.land(), reference.land());
        drawFuel();
        int[] fuel = begun.clone();
        int width = chance(3) ? 0 : random.nextInt(10);
        for (int steps = 1 + random.nextInt(chance(3) ? 5 : 12); steps > 0 && drawnMove(fuel); steps--) {
            int all = fuel[0] + fuel[1] + fuel[2];
            int balance = 0;
            for (int tank = 0; tank < 3; tank++) {
                balance += fuel[tank] * reference.machine.tankAt(tank);
            }
            int middle = all == 0 ? 50 : balance / all;
            int from = Math.max(0, middle - random.nextInt(width + 1));
            int over = all > 0 && balance % all > 0 ? 1 : 0;
            int to = Math.min(99, middle + over + random.nextInt(width + 1));
            due("bounds(" + from + ", " + to + ")", plane.bounds(from, to), reference.bounds(from, to));
        }
    }

    private void drawFuel() {
        for (int tank = 0; tank < 3; tank++) {
            int holds = reference.machine.tankHolds(tank);
            begun[tank] = random.nextInt(6) == 0 ? holds : random.nextInt(holds + 1);
        }
    }

    private boolean drawnMove(int[] fuel) {
        int from = random.nextInt(3);
        int to = random.nextInt(3);
        int room = Math.min(fuel[from], reference.machine.tankHolds(to) - fuel[to]);
        int pumped = from == to ? 0 : Math.min(room, random.nextInt(4));
        fuel[from] -= pumped;
        fuel[to] += pumped;
        int burns = random.nextInt(3);
        for (int i = 0; i < 3; i++) {
            if (fuel[(burns + i) % 3] > 0) {
                fuel[(burns + i) % 3]--;
                return true;
            }
        }
        return false;
    }

    private void plan() {
        if (random.nextInt(3) == 0) {
            drawFuel();
        }
        int[] fuel = begun.clone();
        if (random.nextInt(30) == 0) {
            int tank = random.nextInt(3);
            fuel[tank] = any(0, reference.machine.tankHolds(tank) + 1);
        }
        int a = fuel[0];
        int b = fuel[1];
        int c = fuel[2];
        String shown = "(" + a + ", " + b + ", " + c;
        due("plan" + shown + ")", plane.plan(a, b, c), reference.plan(a, b, c));
        for (int step = 0; step < reference.about(5); step++) {
            due("move" + shown + ", " + step + ")", plane.move(a, b, c, step), reference.move(a, b, c, step));
        }
        int step = any(0, 11);
        due("move" + shown + ", " + step + ")", plane.move(a, b, c, step), reference.move(a, b, c, step));
    }

    private void ways() {
        int from = any(0, 63);
        int to = any(0, 63);
        int tongue = any(0, 2);
        int hour = any(0, 23);
        int barred = any(0, 255);
        int fuel = any(0, 99);
        due("soonest(" + from + ", " + to + ", " + tongue + ", " + hour + ", " + barred + ", " + fuel + ")",
            plane.soonest(from, to, tongue, hour, barred, fuel),
            reference.soonest(from, to, tongue, hour, barred, fuel));
    }

    private void airlines() {
        int month = any(0, 199);
        int tongue = any(0, 2);
        int k = time();
        switch (random.nextInt(8)) {
            case 0, 1 -> {
                int price = any(0, 999);
                due("airline(" + price + ", " + month + ")", plane.airline(price, month),
                    reference.airline(price, month));
            }
            case 2 -> {
                int bits = any(1, 255);
                due("show(" + month + ", " + bits + ")", plane.show(month, bits), reference.show(month, bits));
            }
            case 3 -> later();
            case 4 -> {
                int fact = any(0, 10);
                due("untell(" + fact + ")", plane.untell(fact), reference.untell(fact));
            }
            case 5 -> due("hold(" + month + ", " + tongue + ", " + k + ")", plane.hold(month, tongue, k),
                reference.hold(month, tongue, k));
            default -> {
                int airline = any(0, Math.max(1, reference.about(6)));
                due("lapse(" + airline + ", " + month + ", " + tongue + ", " + k + ")",
                    plane.lapse(airline, month, tongue, k), reference.lapse(airline, month, tongue, k));
            }
        }
    }

    private void stages() {
        int first = any(0, 30);
        int second = any(0, 30);
        int vetoes = any(0, 6);
        switch (reference.about(9) < 2 ? 0 : random.nextInt(8)) {
            case 0 -> {
                int cost = chance(4) ? any(0, 8) : any(0, 30);
                int part = any(0, 10);
                due("stage(" + cost + ", " + part + ")", plane.stage(cost, part), reference.stage(cost, part));
            }
            case 1 -> {
                int money = any(0, 9);
                int slack = any(0, 4);
                due("grant(" + money + ", " + slack + ")", plane.grant(money, slack),
                    reference.grant(money, slack));
            }
            case 2, 3 -> due("safe(" + first + ", " + second + ", " + vetoes + ")",
                plane.safe(first, second, vetoes), reference.safe(first, second, vetoes));
            case 4 -> due("bears(" + first + ", " + second + ")", plane.bears(first, second),
                reference.bears(first, second));
            default -> due("should(" + first + ", " + second + ", " + vetoes + ")",
                plane.should(first, second, vetoes), reference.should(first, second, vetoes));
        }
    }

    private void works() {
        if (reference.about(0) > 7 && random.nextInt(30) > 0) {
            return;
        }
        int least = any(0, 100);
        int part = any(0, Math.max(1, reference.about(0)));
        due("shared(" + least + ")", plane.shared(least), reference.shared(least));
        due("maker(" + part + ", " + least + ")", plane.maker(part, least), reference.maker(part, least));
    }
}

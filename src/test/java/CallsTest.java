import java.util.Random;

/** Runs of up to 512 calls of all sorts, texts with slips among them, against the oracle. */
public final class CallsTest {
    private static final int[] EDGES = {Integer.MIN_VALUE, Integer.MIN_VALUE + 1, -2, -1, 0, 1, 2, 3, 63, 64, 65,
        Integer.MAX_VALUE - 1, Integer.MAX_VALUE};
    private static final String SIGNS = "abcdefz +-/>;0129:#A\t\n";

    public static void main(String[] args) {
        int runs = args.length > 1 ? Integer.parseInt(args[1]) : 500;
        int from = args.length > 2 ? Integer.parseInt(args[2]) : 0;
        for (int seed = from; seed < from + runs && Checks.wrongSoFar() < 20; seed++) {
            run(seed);
        }
        Checks.finish();
    }

    private static void run(int seed) {
        Random random = new Random(seed);
        WaitingWires x = new WaitingWires();
        Oracle y = new Oracle();
        StringBuilder told = new StringBuilder();
        for (int calls = 0; calls < 480; calls++) {
            if (random.nextInt(60) == 0) {
                calls += 32;
                String text = text(random);
                OracleTest.feed(x, y, text.length() > 240 ? text.substring(0, 240) : text);
                told.append(" '").append(text).append("'");
                Checks.due("run " + seed + told + " text()", x.text(), y.text());
                Checks.due("run " + seed + told + " fault()", x.fault(), y.fault());
            }
            call("run " + seed + told, random, x, y);
        }
    }

    /** A text as it should be, or with a byte or two that is gone, come or another. */
    private static String text(Random random) {
        StringBuilder s = new StringBuilder(Nets.text(random.nextInt(100000)));
        int slips = random.nextInt(4);
        for (int i = 0; i < slips && s.length() > 0; i++) {
            int at = random.nextInt(s.length());
            int sort = random.nextInt(4);
            char sign = random.nextInt(40) == 0 ? (char) random.nextInt(256) : SIGNS.charAt(random.nextInt(SIGNS.length()));
            if (sort == 0) {
                s.deleteCharAt(at);
            } else if (sort == 1) {
                s.setCharAt(at, sign);
            } else if (sort == 2) {
                s.insert(at, sign);
            } else {
                s.setLength(random.nextInt(5) == 0 ? at : s.length());
                s.append(random.nextInt(3) == 0 ? "  " : "");
            }
        }
        return s.toString();
    }

    private static int near(Random random, int bound) {
        if (random.nextInt(12) == 0) {
            return EDGES[random.nextInt(EDGES.length)];
        }
        return random.nextInt(bound + 1) - (random.nextInt(10) == 0 ? 1 : 0);
    }

    private static void call(String name, Random random, WaitingWires x, Oracle y) {
        int a = near(random, 4);
        int b = near(random, 3);
        int e = random.nextInt(4) == 0 ? near(random, 16) : near(random, Math.max(0, y.count(1)));
        int i = near(random, 10);
        int n = random.nextInt(3) == 0 ? near(random, 64) : near(random, 8);
        long v = random.nextLong();
        switch (random.nextInt(26)) {
            case 0: Checks.due(name + " feed", x.feed(v), y.feed(v)); break;
            case 1: Checks.due(name + " end " + i, x.end(i), y.end(i)); break;
            case 2: Checks.due(name + " wire " + a + " " + b, x.wire(a, b), y.wire(a, b)); break;
            case 3: Checks.due(name + " event " + e + " " + a, x.event(e, a), y.event(e, a)); break;
            case 4: Checks.due(name + " place " + i + " " + b, x.place(i, b), y.place(i, b)); break;
            case 5: Checks.due(name + " states", x.states(), y.states()); break;
            case 6: Checks.due(name + " of " + i + " " + n, x.of(i, n), y.of(i, n)); break;
            case 7: Checks.due(name + " quarrels " + b, x.quarrels(b), y.quarrels(b)); break;
            case 8: Checks.due(name + " back " + b, x.back(b), y.back(b)); break;
            case 9: Checks.due(name + " stuck " + b, x.stuck(b), y.stuck(b)); break;
            case 10: Checks.due(name + " aim " + a + " " + n, x.aim(a, n), y.aim(a, n)); break;
            case 11: makes(name, a, n, x, y); break;
            case 12: case 13: judge(name, random, x, y); break;
            case 14: Checks.due(name + " would " + e + " " + i, x.would(e, i), y.would(e, i)); break;
            case 15: cure(name, random, e, i, x, y); break;
            case 16: Checks.due(name + " delay " + e + " " + n, x.delay(e, n), y.delay(e, n)); break;
            case 17: Checks.due(name + " beat " + b, x.beat(b), y.beat(b)); break;
            case 18: Checks.due(name + " time " + e + " " + n, x.time(e, n), y.time(e, n)); break;
            case 19: come(name, random, x, y); break;
            case 20: Checks.due(name + " undo", x.undo(), y.undo()); break;
            case 21: Checks.due(name + " run " + b, x.run(b), y.run(b)); break;
            case 22: Checks.due(name + " sheet " + a + " " + b + " " + n, x.sheet(a, b, n), y.sheet(a, b, n)); break;
            case 23: lay(name, random, x, y); break;
            case 24: row(name, random, x, y); break;
            default: Checks.due(name + " count " + i, x.count(i), y.count(i)); break;
        }
    }

    private static void makes(String name, int w, int what, WaitingWires x, Oracle y) {
        if (!y.tooDear(w)) {
            Checks.due(name + " makes " + w + " " + what, x.makes(w, what), y.makes(w, what));
        }
    }

    private static void cure(String name, Random random, int e, int f, WaitingWires x, Oracle y) {
        if (random.nextInt(3) == 0) {
            Checks.due(name + " cure " + e + " " + f, x.cure(e, f), y.cure(e, f));
        }
    }

    /** Several at once, so that runs become long. */
    private static void come(String name, Random random, WaitingWires x, Oracle y) {
        for (int i = random.nextInt(12); i >= 0; i--) {
            int ready = y.run(1);
            int e = random.nextInt(5) == 0 ? near(random, 16) : Integer.numberOfTrailingZeros(ready);
            Checks.due(name + " come " + e, x.come(e), y.come(e));
        }
    }

    private static void lay(String name, Random random, WaitingWires x, Oracle y) {
        for (int i = random.nextInt(9); i >= 0; i--) {
            int k = near(random, 3);
            int c = near(random, 9);
            int v = random.nextInt(4) == 0 ? random.nextInt() : random.nextInt(90);
            Checks.due(name + " lay " + k + " " + c + " " + v, x.lay(k, c, v), y.lay(k, c, v));
        }
    }

    private static void judge(String name, Random random, WaitingWires x, Oracle y) {
        int w = near(random, Math.max(1, y.count(0)));
        int k = near(random, 3);
        if (random.nextInt(3) == 0 && !y.tooDear(w)) {
            Checks.due(name + " sheet", x.sheet(k, 1, 8), y.sheet(k, 1, 8));
            for (int i = 0; i < 8; i++) {
                int cube = y.makes(w, 10 + i);
                int v = random.nextInt(6) == 0 ? random.nextInt(82) : cube;
                Checks.due(name + " lay", x.lay(k, i, v), y.lay(k, i, v));
            }
        }
        int lane = random.nextInt(3) == 0 ? near(random, 2) : 1;
        int f = random.nextInt(4) == 0 ? near(random, 8) : 0;
        int n = random.nextInt(4) == 0 ? near(random, 31) : random.nextInt(5);
        String call = " judge " + w + " " + k + " " + lane + " " + f + " " + n;
        Checks.due(name + call, x.judge(w, k, lane, f, n), y.judge(w, k, lane, f, n));
    }

    private static void row(String name, Random random, WaitingWires x, Oracle y) {
        int k = near(random, 3);
        int lane = near(random, 2);
        if (random.nextBoolean()) {
            x.sheet(k, lane, 20);
            y.sheet(k, lane, 20);
            int came = 0;
            for (int i = 0; i < 20; i++) {
                int e = random.nextInt(15) == 0 ? near(random, 16) : Integer.numberOfTrailingZeros(y.run(1));
                Checks.due(name + " lay", x.lay(k, i, e), y.lay(k, i, e));
                Checks.due(name + " come", x.come(e), y.come(e));
                came++;
            }
            for (int i = 0; i < came; i++) {
                Checks.due(name + " undo", x.undo(), y.undo());
            }
        }
        int f = random.nextInt(3) == 0 ? near(random, 20) : 0;
        int n = near(random, 21);
        Checks.due(name + " row " + k + " " + lane + " " + f + " " + n, x.row(k, lane, f, n), y.row(k, lane, f, n));
    }
}

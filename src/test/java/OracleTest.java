import java.util.Random;

/** The class against the oracle: nets of all sorts, each asked all that can be asked. */
public final class OracleTest {
    private static int right, clashing, cured, beating;

    public static void main(String[] args) {
        int nets = args.length > 1 ? Integer.parseInt(args[1]) : 1200;
        int from = args.length > 2 ? Integer.parseInt(args[2]) : 0;
        for (int seed = from; seed < from + nets && Checks.wrongSoFar() < 20; seed++) {
            askAll(seed);
        }
        System.out.println(nets + " nets: " + right + " right, " + clashing + " with quarrels, " + cured
                + " with cures, " + beating + " with a beat");
        // a generator that makes dull nets alone would prove nothing
        if (nets >= 1000 && (right < 300 || clashing < 100 || cured < 30 || beating < 100)) {
            Checks.due("nets that are worth it", 0, 1);
        }
        Checks.finish();
    }

    private static void askAll(int seed) {
        String text = Nets.text(seed);
        Random random = new Random(seed);
        WaitingWires x = new WaitingWires();
        Oracle y = new Oracle();
        feed(x, y, text);
        String name = "net " + seed + " '" + text + "': ";
        Checks.due(name + "text()", x.text(), y.text());
        Checks.due(name + "fault()", x.fault(), y.fault());
        ask(name, x, y);
        if (random.nextInt(3) == 0) {
            askCures(name, x, y);
        }
        int events = y.count(1);
        if (events > 1) {
            int e = random.nextInt(events);
            int f = random.nextInt(events);
            String call = "cure(" + e + ", " + f + ")";
            Checks.due(name + call, x.cure(e, f), y.cure(e, f));
            ask(name + call + "; ", x, y);
        }
        for (int e = 0; e < y.count(1); e++) {
            int v = 1 + random.nextInt(20);
            Checks.due(name + "delay", x.delay(e, v), y.delay(e, v));
        }
        askDelays(name + "delays; ", x, y);
    }

    static void feed(WaitingWires x, Oracle y, String text) {
        byte[] bytes = Checks.bytes(text);
        for (int i = 0; i < bytes.length; i += 8) {
            long v = Checks.eight(bytes, i);
            Checks.due("feed(" + v + ")", x.feed(v), y.feed(v));
        }
        int n = Math.min(bytes.length, 240);
        Checks.due("end(" + n + ")", x.end(n), y.end(n));
    }

    private static void ask(String name, WaitingWires x, Oracle y) {
        for (int what = -1; what < 8; what++) {
            Checks.due(name + "count(" + what + ")", x.count(what), y.count(what));
            Checks.due(name + "quarrels(" + what + ")", x.quarrels(what), y.quarrels(what));
            Checks.due(name + "back(" + what + ")", x.back(what), y.back(what));
            Checks.due(name + "stuck(" + what + ")", x.stuck(what), y.stuck(what));
            for (int i = -1; i < 21; i++) {
                Checks.due(name + "wire(" + i + ", " + what + ")", x.wire(i, what), y.wire(i, what));
                Checks.due(name + "event(" + i + ", " + what + ")", x.event(i, what), y.event(i, what));
                Checks.due(name + "place(" + i + ", " + what + ")", x.place(i, what), y.place(i, what));
            }
        }
        Checks.due(name + "states()", x.states(), y.states());
        Checks.due(name + "right()", x.right(), y.right());
        int states = Math.max(1, y.states());
        int step = 1 + states / 40;
        for (int s = -1; s <= states; s += step) {
            for (int what = -1; what < 28; what++) {
                Checks.due(name + "of(" + s + ", " + what + ")", x.of(s, what), y.of(s, what));
            }
        }
        for (int what = 0; what < 5; what++) {
            Checks.due(name + "of(last, " + what + ")", x.of(states - 1, what), y.of(states - 1, what));
        }
        askMakes(name, x, y);
        right += y.right();
        clashing += y.quarrels(1) > 0 ? 1 : 0;
    }

    private static void askMakes(String name, WaitingWires x, Oracle y) {
        boolean dear = false;
        for (int w = -1; w < 7; w++) {
            for (int levels = -1; levels <= 1 << Math.max(0, y.count(0)); levels++) {
                Checks.due(name + "aim(" + w + ", " + levels + ")", x.aim(w, levels), y.aim(w, levels));
            }
            dear |= y.tooDear(w);
            if (y.tooDear(w)) {
                continue;
            }
            int cubes = y.makes(w, 0);
            for (int what = -1; what <= Math.max(3, cubes + 11); what++) {
                Checks.due(name + "makes(" + w + ", " + what + ")", x.makes(w, what), y.makes(w, what));
            }
        }
        if (!dear) {
            Checks.due(name + "cost()", x.cost(), y.cost());
        }
    }

    private static void askCures(String name, WaitingWires x, Oracle y) {
        int events = y.count(1);
        for (int e = -1; e <= events; e++) {
            for (int f = -1; f <= events; f++) {
                Checks.due(name + "would(" + e + ", " + f + ")", x.would(e, f), y.would(e, f));
            }
        }
        for (int what = -1; what < 3; what++) {
            Checks.due(name + "cures(" + what + ")", x.cures(what), y.cures(what));
        }
        Checks.due(name + "cures(0)", x.cures(0), y.cures(0));
        cured += y.cures(0) >= 0 ? 1 : 0;
    }

    private static void askDelays(String name, WaitingWires x, Oracle y) {
        for (int what = -1; what < 4; what++) {
            Checks.due(name + "beat(" + what + ")", x.beat(what), y.beat(what));
        }
        beating += y.beat(1) > 0 ? 1 : 0;
        int[] times = {0, 1, 2, 3, 7, 50, 51};
        for (int e = -1; e <= y.count(1); e++) {
            for (int k : times) {
                Checks.due(name + "time(" + e + ", " + k + ")", x.time(e, k), y.time(e, k));
            }
        }
    }
}

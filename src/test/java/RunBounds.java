import java.util.function.Supplier;

/** Promises 25 to 27, sentence by sentence: events that come one by one by hand, and are taken back. */
final class RunBounds {
    private static final int BAD = Bounds.BAD, STATE = Bounds.STATE, FULL = Bounds.FULL, NONE = Bounds.NONE;
    /** b+ (event 0) once, a+ (2) and a- (1) for ever. */
    private static final String TICK = "in a;in b;place>b+ 1;place a->a+ 1;place a+>a- 0;";

    private RunBounds() { }

    static void all() {
        come();
        comeRefused();
        full();
        undo();
        run();
    }

    private static void is(String call, WaitingWires x, int... due) {
        for (int what = 0; what < 4; what++) {
            Bounds.due(call + ": run(" + what + ")", x.run(what), due[what]);
        }
        Bounds.due(call + ": count(4)", x.count(4), due[2]);
    }

    private static void come() {
        Bounds.of(25, "An EVENT comes: how many came so far.");
        WaitingWires x = Checks.told(Texts.LATCH);
        for (int i = 0; i < 8; i++) {
            Bounds.due("EVENT " + i % 4, x.come(i % 4), i + 1);
        }
        Bounds.terms(25, "THE RUN: from the first STATE on EVENTS come one by one by hand.");
        Bounds.tell(x, Texts.LATCH);
        is("the first STATE", x, 8, 1, 0, NONE);
        x.come(0);
        is("one", x, 1, 2, 1, 0);
        x.come(1);
        is("by one", x, 2, 4, 2, 1);
        Bounds.due("the STATES are as they were", x.of(0, 0), 8);
        Bounds.terms(25, "when it COMES, these have none, then each PLACE that it feeds has one.");
        Bounds.tell(x, "in a;in b;place>a+ 1;place>a+ 1;place a+>b+ 0;place a+>b+ 0;");
        x.come(0);
        is("two are taken, two are fed", x, 12, 2, 1, 0);
        Bounds.tell(x, "in a;place a+>a+ 1;");
        Bounds.due("taken, then fed", x.come(0), 1);
        is("as it was", x, 1, 1, 1, 0);
        Bounds.tell(x, "in a;place>a+ 1;place a->a+ 0;");
        Bounds.due("one of two is missing", x.come(0), STATE);
        // the net has no STATES, yet EVENTS come
        Bounds.tell(x, Texts.ONE_STATE_MORE);
        Bounds.due("of 201 STATES", x.come(0), 1);
    }

    private static void comeRefused() {
        Bounds.of(25, "BAD; STATE: it is not READY, or UNSAFE.");
        int[] noEvent = {-1, 4, 16, Bounds.MIN, Bounds.MAX};
        for (int e : noEvent) {
            Bounds.refused(Texts.used(Texts.LATCH), "come(" + e + ")", x -> x.come(e), BAD);
        }
        // behind three of the ring b- alone is READY
        for (int e = 0; e < 3; e++) {
            int event = e;
            Bounds.refused(Texts.used(Texts.LATCH), "come(" + e + ")", x -> x.come(event), STATE);
        }
        Bounds.refused(() -> Checks.told(Texts.UNSAFE), "UNSAFE", x -> x.come(0), STATE);
        WaitingWires x = Checks.told(Texts.UNSAFE);
        is("READY all the same", x, 3, 3, 0, NONE);
        Bounds.due("b+", x.come(1), 1);
        Bounds.due("then a+ is not UNSAFE", x.come(0), 2);
        Bounds.tell(x, "in a;place a+>a- 0;");
        Bounds.due("it takes from none", x.come(0), STATE);
    }

    /** b+, a+, a-, a+ .. */
    private static WaitingWires ticks(int n) {
        WaitingWires x = Checks.told(TICK);
        for (int i = 0; i < n; i++) {
            Bounds.due("come " + i, x.come(i == 0 ? 0 : i % 2 == 0 ? 1 : 2), i + 1);
        }
        return x;
    }

    private static void full() {
        Bounds.of(25, "FULL: 100.");
        WaitingWires x = ticks(100);
        Bounds.due("the 101st", x.come(1), FULL);
        is("behind it", x, 4, 2, 100, 2);
        Bounds.due("STATE first", x.come(2), STATE);
        Bounds.due("BAD first", x.come(3), BAD);
        x.undo();
        Bounds.due("the 100th again", x.come(2), 100);
        Supplier<WaitingWires> hundred = () -> ticks(100);
        Bounds.refused(hundred, "come(1)", y -> y.come(1), FULL);
        // b+ is READY but UNSAFE, a+ is READY: both are refused, each for its own
        Bounds.tell(x, "in a;in b;place a->a+ 1;place a+>a- 0;place>b+ 1;place b+>b- 1;");
        for (int i = 0; i < 100; i++) {
            x.come(1 - i % 2);
        }
        Bounds.due("count(4)", x.count(4), 100);
        Bounds.due("STATE of UNSAFE, FULL", x.come(2), STATE);
        Bounds.due("FULL alone", x.come(1), FULL);
    }

    private static void undo() {
        Bounds.of(26, "The latest one is taken back: how many came.");
        WaitingWires x = ticks(100);
        for (int i = 99; i >= 0; i--) {
            Bounds.due("undo()", x.undo(), i);
            boolean high = i > 0 && i % 2 == 0;
            is("behind undo()", x, i == 0 ? 3 : high ? 4 : 2, i == 0 ? 5 : high ? 2 : 4, i, i == 0 ? NONE : i == 1 ? 0 : high ? 2 : 1);
        }
        Bounds.of(26, "NONE.");
        Bounds.due("undo()", x.undo(), NONE);
        is("behind it", x, 3, 5, 0, NONE);
        Bounds.due("of nothing", new WaitingWires().undo(), NONE);
        x.come(1);
        Bounds.tell(x, TICK);
        Bounds.due("behind a text", x.undo(), NONE);
        x.come(1);
        x.cure(0, 1);
        Bounds.due("behind a cure", x.undo(), NONE);
        Bounds.refused(() -> Checks.told(Texts.LATCH), "undo()", WaitingWires::undo, NONE);
    }

    private static void run() {
        Bounds.of(27, "Of THE RUN: 0 MARKING, 1 EVENTS that are READY (bits), 2 how many came, 3 the latest (NONE).");
        WaitingWires x = Checks.told(Texts.events(16).replace("0;", "1;"));
        is("all sixteen are READY", x, 3, 65535, 0, NONE);
        Bounds.due("the last one", x.come(15), 1);
        is("one is READY", x, 1, 1, 1, 15);
        Bounds.due("the first one", x.come(0), 2);
        is("none is READY", x, 0, 0, 2, 0);
        Bounds.tell(x, Texts.twentyPlaces(1));
        is("twenty TOKENS", x, (1 << 20) - 1, 1, 0, NONE);
        Bounds.of(27, "BAD.");
        int[] noWhat = {-1, 4, 5};
        Bounds.dueForAll("what", noWhat, x::run, BAD);
        Bounds.dueForAll("what", Bounds.FAR, x::run, BAD);
    }
}

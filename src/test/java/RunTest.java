/** Promises 25 to 27: events that come one by one by hand, and are taken back. */
public final class RunTest {
    private static final int BAD = WaitingWires.BAD, STATE = WaitingWires.STATE, FULL = WaitingWires.FULL,
        NONE = WaitingWires.NONE;

    public static void main(String[] args) {
        comeAndUndo();
        unsafe();
        hundred();
        wrong();
        Checks.finish();
    }

    private static void is(String name, WaitingWires x, int... due) {
        for (int what = 0; what < 4; what++) {
            Checks.due(name + ": run(" + what + ")", x.run(what), due[what]);
        }
        Checks.due(name + ": count(4)", x.count(4), due[2]);
    }

    private static void comeAndUndo() {
        WaitingWires x = Checks.told("in a;in b;place>a+ 1;place>b+ 1;place a+>a- 0;place b+>a- 0;");
        is("at first", x, 3, 3, 0, NONE);
        Checks.due("a- is not ready", x.come(2), STATE);
        Checks.due("b+", x.come(1), 1);
        is("behind b+", x, 9, 1, 1, 1);
        Checks.due("b+ is not ready again", x.come(1), STATE);
        Checks.due("a+", x.come(0), 2);
        is("behind a+", x, 12, 4, 2, 0);
        Checks.due("a-", x.come(2), 3);
        is("behind a-", x, 0, 0, 3, 2);
        Checks.due("back", x.undo(), 2);
        is("back behind a+", x, 12, 4, 2, 0);
        Checks.due("back", x.undo(), 1);
        is("back behind b+", x, 9, 1, 1, 1);
        Checks.due("back", x.undo(), 0);
        is("at first again", x, 3, 3, 0, NONE);
        Checks.due("none", x.undo(), NONE);
        is("at first still", x, 3, 3, 0, NONE);
        Checks.due("another way", x.come(0), 1);
        Checks.due("a delay changes no run", x.delay(0, 3), 1);
        is("behind a+", x, 6, 2, 1, 0);
    }

    private static void unsafe() {
        // the net is unsafe, and has no states: the run goes as far as it can
        WaitingWires x = Checks.told("in a;in b;place>a+ 1;place a+>b+ 1;");
        Checks.due("states()", x.states(), STATE);
        is("at first", x, 3, 3, 0, NONE);
        Checks.due("a+ is unsafe", x.come(0), STATE);
        Checks.due("b+", x.come(1), 1);
        Checks.due("a+ is safe now", x.come(0), 2);
        is("then", x, 2, 2, 2, 0);
        // it takes ahead of feeding
        Checks.tell(x, "in a;place a+>a+ 1;");
        Checks.due("a loop is safe", x.come(0), 1);
    }

    private static void hundred() {
        WaitingWires x = Checks.told("in a;place a->a+ 1;place a+>a- 0;");
        for (int i = 1; i <= 100; i++) {
            Checks.due("come " + i, x.come(i % 2), i);
        }
        Checks.due("not ready first", x.come(0), STATE);
        Checks.due("the 101st", x.come(1), FULL);
        Checks.due("BAD first", x.come(2), BAD);
        is("full", x, 1, 2, 100, 0);
        for (int i = 99; i >= 0; i--) {
            Checks.due("undo", x.undo(), i);
        }
        Checks.due("none", x.undo(), NONE);
        Checks.due("and on", x.come(1), 1);
        Checks.tell(x, "in a;in b;place>b+ 1;place a->a+ 1;place a+>a- 0;");
        Checks.due("b+", x.come(0), 1);
        for (int i = 2; i <= 100; i++) {
            Checks.due("come " + i, x.come(i % 2 == 0 ? 2 : 1), i);
        }
        is("full", x, 4, 2, 100, 2);
    }

    private static void wrong() {
        WaitingWires x = Checks.told("in a;place a->a+ 1;place a+>a- 0;");
        int[] wrong = {-1, 4, Integer.MIN_VALUE, Integer.MAX_VALUE};
        for (int i : wrong) {
            Checks.due("come(" + i + ")", x.come(i), BAD);
            Checks.due("run(" + i + ")", x.run(i), BAD);
        }
        Checks.due("come(2)", x.come(2), BAD);
        Checks.due("come of nothing", new WaitingWires().come(0), BAD);
    }
}

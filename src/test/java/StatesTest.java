/** Promises 9 to 14: states, levels, quarrels, what is taken back, what is stuck. */
public final class StatesTest {
    private static final int BAD = WaitingWires.BAD, STATE = WaitingWires.STATE, NONE = WaitingWires.NONE,
        SPENT = WaitingWires.SPENT;
    private static final String LATCH = Texts.LATCH;
    /** Two chains of four events, three events by themselves: 5 * 5 * 2 * 2 * 2 states. */
    private static final String TWO_HUNDRED = Texts.TWO_HUNDRED;
    private static final String FORK = Texts.FORK;

    public static void main(String[] args) {
        numbers();
        limits();
        right();
        of();
        quarrels();
        takenBack();
        stuck();
        wrong();
        Checks.finish();
    }

    private static void numbers() {
        // from the first state events 0 and 1 are ready: their states come in that order
        WaitingWires x = Checks.told("in a;in b;place>b+ 1;place>a+ 1;");
        Checks.due("states()", x.states(), 4);
        int[][] rows = {{3, 3, 1, 2}, {2, 2, NONE, 3}, {1, 1, 3, NONE}, {0, 0, NONE, NONE}};
        for (int s = 0; s < 4; s++) {
            Checks.due("of(" + s + ", 0)", x.of(s, 0), rows[s][0]);
            Checks.due("of(" + s + ", 1)", x.of(s, 1), rows[s][1]);
            Checks.due("of(" + s + ", 10)", x.of(s, 10), rows[s][2]);
            Checks.due("of(" + s + ", 11)", x.of(s, 11), rows[s][3]);
        }
        // an event that takes from no place is never ready
        x = Checks.told("in a;place a+>a- 0;");
        Checks.due("states()", x.states(), 1);
        // what it takes is gone ahead of what it feeds
        x = Checks.told("in a;place a+>a+ 1;");
        Checks.due("states() of a loop", x.states(), 1);
        Checks.due("of(0, 10) of a loop", x.of(0, 10), 0);
    }

    private static void limits() {
        WaitingWires x = Checks.told(TWO_HUNDRED);
        Checks.due("200 states", x.states(), 200);
        Checks.due("the last", x.of(199, 0), 0);
        Checks.due("behind the last", x.of(200, 0), BAD);
        Checks.due("stuck(0)", x.stuck(0), 1);
        Checks.due("stuck(1)", x.stuck(1), 199);
        Checks.due("201 states", Checks.tell(x, TWO_HUNDRED
            + "place b->f-0;place d->f-0;place e+>f-0;place e->f-0;place f+>f-0;"), 16);
        Checks.due("states()", x.states(), SPENT);
        Checks.due("right()", x.right(), 0);
        Checks.due("of(0, 0)", x.of(0, 0), BAD);
        Checks.due("stuck(0)", x.stuck(0), STATE);
        Checks.due("unsafe", Checks.tell(x, "in a;in b;place>a+ 1;place a+>b+ 1;"), 2);
        Checks.due("states()", x.states(), STATE);
        Checks.due("right()", x.right(), 0);
        Checks.due("of(0, 0)", x.of(0, 0), BAD);
        Checks.due("stuck(2)", x.stuck(2), STATE);
        Checks.due("quarrels(0)", x.quarrels(0), STATE);
        // many by themselves, and a chain whose last event is unsafe: the 201st is met first
        String many = "in a;in b;in c;in d;in e;in f;place>a+1;place>a-1;place>b+1;place>b-1;place>c+1;place>c-1;place>d+1;"
            + "place>d-1;place>e+1;place>e-1;place>f+1;place f+>f-0;place f->f+/1 0;";
        Checks.tell(x, many + "place f+/1>f-/1 0;place f-/1>a+/1 1;");
        Checks.due("spent first", x.states(), SPENT);
        Checks.tell(x, many + "place f+>f+/2 1;");
        Checks.due("unsafe first", x.states(), STATE);
    }

    private static void right() {
        WaitingWires x = Checks.told(LATCH);
        Checks.due("right()", x.right(), 1);
        Checks.tell(x, "in a;in b;place>a+ 1;place a+>b+ 0;place b+>a+/1 0;");
        Checks.due("two rises of a wire", x.right(), 0);
        Checks.due("its states", x.states(), 4);
        Checks.tell(x, "in a;in b;place>a+ b+ 1;place a+ b+>b- 0;");
        Checks.due("two ways to a state that differ", x.right(), 0);
        Checks.tell(x, "in a;in b;place>a+ 1;place>a- 1;");
        Checks.due("both a rise and a fall", x.right(), 0);
        Checks.tell(x, "in a;in b;place>a+ a+/1 1;place a+ a+/1>b+ 0;");
        Checks.due("two rises to choose from", x.right(), 1);
        Checks.due("its states", x.states(), 3);
        // a wire whose events never come is 0, the fall of another tells that it was 1
        Checks.tell(x, "in a;in b;in c;place>a- 1;place>b- 0;place a->b- 0;");
        Checks.due("levels of the first", x.of(0, 2), 1);
        Checks.due("levels of the second", x.of(1, 2), 0);
    }

    private static void of() {
        WaitingWires x = Checks.told(LATCH);
        int[][] rows = {{8, 1, 0, 1, 1}, {1, 2, 1, 2, 3}, {2, 4, 3, 1, 2}, {4, 8, 2, 2, 0}};
        for (int s = 0; s < 4; s++) {
            for (int what = 0; what < 5; what++) {
                Checks.due("of(" + s + ", " + what + ")", x.of(s, what), rows[s][what]);
            }
            for (int e = 0; e < 4; e++) {
                Checks.due("of(" + s + ", 10 and " + e + ")", x.of(s, 10 + e), e == s ? (s + 1) % 4 : NONE);
            }
        }
        int[] wrong = {-1, 5, 6, 7, 8, 9, 14, 15, 26, Integer.MIN_VALUE, Integer.MAX_VALUE};
        for (int what : wrong) {
            Checks.due("of(0, " + what + ")", x.of(0, what), BAD);
        }
        Checks.due("of(-1, 0)", x.of(-1, 0), BAD);
        Checks.due("of(4, 0)", x.of(4, 0), BAD);
        Checks.tell(x, "in a;place a+>a+ 1;");
        for (int what = 2; what < 5; what++) {
            Checks.due("not right: of(0, " + what + ")", x.of(0, what), STATE);
            Checks.due("not right: of(1, " + what + ")", x.of(1, what), BAD);
        }
        Checks.due("not right: of(0, 1)", x.of(0, 1), 1);
        Checks.due("not right: of(0, 5)", x.of(0, 5), BAD);
    }

    private static void quarrels() {
        WaitingWires x = Checks.told("in a;out b;out c;place a+>b+ 0;place b+>a- 0;place a->b- 0;place b->c+ 0;place c+>c- 0;place c->a+ 1;");
        int[] due = {1, 1, 0, 4};
        for (int what = 0; what < 4; what++) {
            Checks.due("quarrels(" + what + ")", x.quarrels(what), due[what]);
        }
        // the same with c told as in: alike, but no wire that is made goes on unlike
        Checks.tell(x, "in a;out b;in c;place a+>b+ 0;place b+>a- 0;place a->b- 0;place b->c+ 0;place c+>c- 0;place c->a+ 1;");
        int[] none = {1, 0, NONE, NONE};
        for (int what = 0; what < 4; what++) {
            Checks.due("no quarrel: quarrels(" + what + ")", x.quarrels(what), none[what]);
        }
        // four times round: levels 0, 1, 0, 1 ... and b only in the end
        Checks.tell(x, "in a;inner b;place b->a+ 1;place a+>a- 0;place a->a+/1 0;place a+/1>a-/1 0;place a-/1>b+ 0;place b+>b- 0;");
        int[] two = {4, 2, 0, 4};
        for (int what = 0; what < 4; what++) {
            Checks.due("round: quarrels(" + what + ")", x.quarrels(what), two[what]);
        }
    }

    private static void takenBack() {
        WaitingWires x = Checks.told(FORK);
        Checks.due("right()", x.right(), 1);
        int[] due = {1, 0, 1 + 1, 1};
        for (int what = 0; what < 4; what++) {
            Checks.due("back(" + what + ")", x.back(what), due[what]);
        }
        // both are out now: each takes the other back
        Checks.tell(x, FORK.replace("in a", "out a"));
        int[] both = {2, 0, 1, 2};
        for (int what = 0; what < 4; what++) {
            Checks.due("both out: back(" + what + ")", x.back(what), both[what]);
        }
        Checks.tell(x, "in a;out b;out c;place b+>b- 0;place a+>a- 0;place c->a+ b+ 1;place a- b->c+ 0;place c+>c- 0;");
        int[] zero = {1, 0, 0, 2};
        for (int what = 0; what < 4; what++) {
            Checks.due("event 0: back(" + what + ")", x.back(what), zero[what]);
        }
        // both are in: nothing is taken back
        Checks.tell(x, FORK.replace("out b", "in b"));
        int[] none = {0, NONE, NONE, NONE};
        for (int what = 0; what < 4; what++) {
            Checks.due("both in: back(" + what + ")", x.back(what), none[what]);
        }
        // another event of the same wire keeps it excited
        Checks.tell(x, "in a;out b;place>a+ b+ 1;place a+>b+/1 0;place a+>a- 0;");
        Checks.due("still excited: right()", x.right(), 1);
        Checks.due("still excited: back(0)", x.back(0), 0);
        // another event of the same wire does not take it back
        Checks.tell(x, "out b;place>b+ b+/1 1;");
        Checks.due("the same wire: back(0)", x.back(0), 0);
    }

    private static void stuck() {
        WaitingWires x = Checks.told(LATCH);
        for (int what = 0; what < 3; what++) {
            Checks.due("a ring: stuck(" + what + ")", x.stuck(what), 0);
        }
        // a way in, then a ring of two; an end beside; one event that never comes
        Checks.tell(x, "in a;in b;place>a+ b+ 1;place a+ a+/1>a- 0;place a->a+/1 0;place b->b-/1 0;");
        Checks.due("states()", x.states(), 4);
        Checks.due("stuck(0)", x.stuck(0), 1);
        Checks.due("stuck(1)", x.stuck(1), 3);
        Checks.due("stuck(2)", x.stuck(2), 2);
        // not right, but it has states
        Checks.tell(x, "in a;place a+>a+ 1;");
        Checks.due("not right: stuck(0)", x.stuck(0), 0);
        Checks.due("not right: stuck(1)", x.stuck(1), 0);
    }

    private static void wrong() {
        WaitingWires x = Checks.told(LATCH);
        WaitingWires y = Checks.told("in a;place a+>a+ 1;");
        int[] wrong = {-1, 4, Integer.MIN_VALUE, Integer.MAX_VALUE};
        for (int what : wrong) {
            Checks.due("quarrels(" + what + ")", x.quarrels(what), BAD);
            Checks.due("back(" + what + ")", x.back(what), BAD);
            Checks.due("stuck(" + what + ")", x.stuck(what), BAD);
            Checks.due("not right: quarrels(" + what + ")", y.quarrels(what), BAD);
            Checks.due("not right: back(" + what + ")", y.back(what), BAD);
        }
        Checks.due("stuck(3)", x.stuck(3), BAD);
        for (int what = 0; what < 4; what++) {
            Checks.due("not right: quarrels(" + what + ")", y.quarrels(what), STATE);
            Checks.due("not right: back(" + what + ")", y.back(what), STATE);
        }
    }
}

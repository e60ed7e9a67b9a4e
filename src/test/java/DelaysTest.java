/** Promises 22 to 24: delays, the beat, when each comes. */
public final class DelaysTest {
    private static final int BAD = WaitingWires.BAD, STATE = WaitingWires.STATE, NONE = WaitingWires.NONE;
    private static final String LATCH = Texts.LATCH;

    public static void main(String[] args) {
        delay();
        beat();
        beatFraction();
        noBeat();
        time();
        never();
        Checks.finish();
    }

    private static void delay() {
        WaitingWires x = Checks.told(LATCH);
        Checks.due("delay(0, 20)", x.delay(0, 20), 1);
        Checks.due("delay(0, 1)", x.delay(0, 1), 20);
        Checks.due("delay(3, 7)", x.delay(3, 7), 1);
        Checks.due("event(3, 5)", x.event(3, 5), 7);
        int[] wrong = {0, -1, 21, Integer.MIN_VALUE, Integer.MAX_VALUE};
        for (int v : wrong) {
            Checks.due("delay(3, " + v + ")", x.delay(3, v), BAD);
        }
        Checks.due("delay(4, 1)", x.delay(4, 1), BAD);
        Checks.due("delay(-1, 1)", x.delay(-1, 1), BAD);
        Checks.due("refused", x.event(3, 5), 7);
    }

    private static void beats(String name, WaitingWires x, int numerator, int denominator, int events) {
        Checks.due(name + ": beat(0)", x.beat(0), numerator);
        Checks.due(name + ": beat(1)", x.beat(1), denominator);
        Checks.due(name + ": beat(2)", x.beat(2), events);
    }

    private static void beat() {
        WaitingWires x = Checks.told(LATCH);
        beats("a ring", x, 4, 1, 15);
        x.delay(1, 20);
        x.delay(2, 3);
        beats("delays", x, 25, 1, 15);
        // the net need not be right
        Checks.tell(x, "in a;place a+>a+ 1;");
        beats("a loop", x, 1, 1, 1);
        // two rings that share an event: the slower one tells
        Checks.tell(x, "in a;in b;in c;place a+>b+ 0;place b+>a+ 1;place a+>c+ 0;place c+>a+ 1;");
        beats("as slow as one another", x, 2, 1, 7);
        x.delay(2, 2);
        beats("c is slower", x, 3, 1, 5);
        x.delay(1, 9);
        beats("b is slower", x, 10, 1, 3);
        // two places between two events: the one without a token makes the slower ring
        Checks.tell(x, "in a;in b;place a+>b+ 1;place a+>b+ 0;place b+>a+ 1;");
        beats("two places", x, 2, 1, 3);
        // rings that do not meet
        Checks.tell(x, "in a;in b;in c;place a+>a+ 1;place b+>b+ 1;place>c+ 0;");
        Checks.due("a place that none feeds", x.beat(0), STATE);
        Checks.tell(x, "in a;in b;place a+>a+ 1;place b+>b+ 1;");
        x.delay(1, 2);
        beats("apart", x, 2, 1, 2);
    }

    private static void beatFraction() {
        WaitingWires x = Checks.told("in a;place a+>a- 1;place a->a+/1 1;place a+/1>a+ 0;");
        x.delay(0, 3);
        beats("5 by 2", x, 5, 2, 7);
        x.delay(1, 2);
        beats("6 by 2 is 3 by 1", x, 3, 1, 7);
        // 7 by 3 is more than 9 by 4 and less than 5 by 2
        Checks.tell(x, "in a;in b;place a+>a-1;place a->a+/1 1;place a+/1>a+1;place b+>b-1;place b->b+/1 1;place b+/1>b-/1 1;place b-/1>b+1;");
        x.delay(0, 5);
        x.delay(3, 6);
        beats("7 by 3", x, 7, 3, 7);
        x.delay(3, 7);
        beats("10 by 4", x, 5, 2, 8 + 16 + 32 + 64);
        // sixteen events, sixteen tokens
        StringBuilder s = new StringBuilder("in a;in b;");
        for (int i = 0; i < 8; i++) {
            s.append("place a+/").append(i).append(">b+/").append(i).append(" 1;");
        }
        Checks.due("eight places", Checks.tell(x, s.toString()), 8);
        Checks.due("no ring", x.beat(0), NONE);
    }

    private static void noBeat() {
        WaitingWires x = new WaitingWires();
        Checks.due("nothing", x.beat(0), NONE);
        int[] wrong = {-1, 3, Integer.MIN_VALUE, Integer.MAX_VALUE};
        for (int what : wrong) {
            Checks.due("beat(" + what + ")", x.beat(what), BAD);
        }
        Checks.tell(x, "in a;place a+>a- 1;");
        Checks.due("no ring", x.beat(2), NONE);
        Checks.tell(x, "in a;place>a- 1;");
        Checks.due("fed by none", x.beat(2), STATE);
        Checks.due("BAD first", x.beat(3), BAD);
        Checks.tell(x, "in a;place a+ a->a+ 1;");
        Checks.due("fed by two", x.beat(1), STATE);
        Checks.tell(x, "in a;place a+>a+ a- 1;");
        Checks.due("two take from it", x.beat(1), STATE);
        Checks.tell(x, "in a;in b;place a+>a+ 1;place b+>b- 0;place b->b+ 0;");
        Checks.due("a ring without a token", x.beat(0), STATE);
        Checks.due("time beside a ring without a token", x.time(0, 1), STATE);
        Checks.tell(x, "in a;place a+>a+ 0;");
        Checks.due("a loop without a token", x.beat(0), STATE);
    }

    private static void time() {
        WaitingWires x = Checks.told(LATCH);
        x.delay(0, 7);
        x.delay(2, 20);
        int[] ends = {7, 8, 28, 29};
        for (int e = 0; e < 4; e++) {
            for (int k = 1; k <= 50; k++) {
                Checks.due("time(" + e + ", " + k + ")", x.time(e, k), ends[e] + 29 * (k - 1));
            }
        }
        int[] wrong = {0, -1, 51, Integer.MIN_VALUE, Integer.MAX_VALUE};
        for (int k : wrong) {
            Checks.due("time(0, " + k + ")", x.time(0, k), BAD);
        }
        Checks.due("time(4, 1)", x.time(4, 1), BAD);
        Checks.due("time(-1, 1)", x.time(-1, 1), BAD);
        // b+ waits for the slower of two, and for its own ring
        Checks.tell(x, "in a;in b;in c;place a+>a+1;place c+>c+1;place a+>b+0;place c+>b+0;");
        x.delay(0, 3);
        x.delay(1, 5);
        x.delay(2, 2);
        Checks.due("b+ behind c+", x.time(2, 1), 7);
        Checks.due("b+ behind c+, second", x.time(2, 2), 12);
        Checks.due("a+ goes ahead", x.time(0, 2), 6);
        // tokens gather in a place: they are taken in their order
        Checks.tell(x, "in a;in b;place a+>a+1;place a+>b+1;place b+>b+1;");
        x.delay(1, 4);
        Checks.due("the token of the beginning", x.time(1, 1), 4);
        Checks.due("then its own ring holds it", x.time(1, 50), 200);
        x.delay(1, 1);
        x.delay(0, 6);
        Checks.due("then it waits for a+", x.time(1, 3), 13);
        Checks.tell(x, "in a;place>a+ 1;");
        Checks.due("STATE", x.time(0, 1), STATE);
        Checks.due("BAD first", x.time(0, 51), BAD);
    }

    private static void never() {
        // a+ takes from none, so it never comes: a- comes once, by the token of the beginning
        WaitingWires x = Checks.told("in a;in b;place a+>a- 1;place a->b+ 1;place a+>b- 0;");
        x.delay(1, 4);
        Checks.due("a+ never", x.time(0, 1), NONE);
        Checks.due("a- once", x.time(1, 1), 4);
        Checks.due("a- not twice", x.time(1, 2), NONE);
        Checks.due("b+ at once", x.time(2, 1), 1);
        Checks.due("b+ behind a-", x.time(2, 2), 5);
        Checks.due("b+ not three times", x.time(2, 3), NONE);
        Checks.due("b- never", x.time(3, 1), NONE);
    }
}

/** Promises 22 to 24, sentence by sentence: delays, the beat, when each comes. */
final class DelaysBounds {
    private static final int BAD = Bounds.BAD, STATE = Bounds.STATE, NONE = Bounds.NONE;
    /** Twelve events in a ring; %d stands for the tokens of all places but the last, which has one. */
    private static final String TWELVE = "in a;in b;in c;in d;in e;in f;place a+>b+%1$d;place b+>c+%1$d;place c+>d+%1$d;place d+>e+%1$d;"
        + "place e+>f+%1$d;place f+>a-%1$d;place a->b-%1$d;place b->c-%1$d;place c->d-%1$d;place d->e-%1$d;place e->f-%1$d;place f->a+1;";

    private DelaysBounds() { }

    static void all() {
        delay();
        delayRefused();
        beat();
        fractions();
        rings();
        beatRefused();
        time();
        begins();
        timeRefused();
        never();
    }

    private static void delay() {
        Bounds.of(22, "DELAY of an EVENT becomes v: what it was.");
        WaitingWires x = Checks.told(Texts.events(16));
        Bounds.due("EVENT 0", x.delay(0, 20), 1);
        Bounds.due("EVENT 15", x.delay(15, 19), 1);
        Bounds.due("EVENT 0 again", x.delay(0, 1), 20);
        Bounds.due("the same again", x.delay(0, 1), 1);
        Bounds.due("event(0, 5)", x.event(0, 5), 1);
        Bounds.due("event(15, 5)", x.event(15, 5), 19);
        x = Checks.told(Texts.MEET);
        WaitingWires y = Checks.told(Texts.MEET);
        Look.at(x);
        x.delay(2, 9);
        y.delay(2, 9);
        Bounds.due("nothing that was found ahead is left", Look.at(x).equals(Look.at(y)) ? 1 : 0, 1);
        Bounds.terms(22, "DELAYS of EVENTS: 1 to 20.");
        for (int v = 1; v <= 20; v++) {
            Bounds.due("delay(1, " + v + ")", x.delay(1, v), Math.max(1, v - 1));
        }
        Bounds.due("delay(1, 21)", x.delay(1, 21), BAD);
        Bounds.due("delay(1, 0)", x.delay(1, 0), BAD);
    }

    private static void delayRefused() {
        Bounds.of(22, "BAD.");
        int[][] wrong = {{-1, 1}, {4, 1}, {16, 1}, {Bounds.MIN, 1}, {Bounds.MAX, 1}, {0, 0}, {0, -1}, {3, 21}, {3, Bounds.MIN},
            {3, Bounds.MAX}, {4, 0}};
        for (int[] w : wrong) {
            Bounds.refused(Texts.used(Texts.LATCH), "delay(" + w[0] + ", " + w[1] + ")", x -> x.delay(w[0], w[1]), BAD);
        }
    }

    private static void beats(String call, WaitingWires x, int numerator, int denominator, int events) {
        Bounds.due(call + ": beat(0)", x.beat(0), numerator);
        Bounds.due(call + ": beat(1)", x.beat(1), denominator);
        Bounds.due(call + ": beat(2)", x.beat(2), events);
    }

    private static void delays(WaitingWires x, int... values) {
        for (int e = 0; e < values.length; e++) {
            x.delay(e, values[e]);
        }
    }

    private static void beat() {
        Bounds.of(23, "BEAT: 0 the numerator, 1 the denominator; 2 EVENTS that are on a ring of that (bits).");
        WaitingWires x = Checks.told("in a;place a+>a+ 1;");
        beats("the least ring", x, 1, 1, 1);
        Bounds.tell(x, String.format(TWELVE, 0));
        beats("twelve", x, 12, 1, 4095);
        for (int e = 0; e < 12; e++) {
            x.delay(e, 20);
        }
        beats("twelve of 20", x, 240, 1, 4095);
        Bounds.tell(x, Texts.SIX_WIRES + "place a+>a-1;place b+>b-1;place c+>c-1;place d+>d-1;place e+>e-1;place f+>f-1;"
            + "place a+/1>a-/1 1;place b+/1>b-/1 1;place b-/1>b+/1 0;");
        Bounds.due("sixteen EVENTS", x.count(1), 16);
        beats("the last two of sixteen", x, 2, 1, 3 << 14);
        // it begins at once, then behind the other one
        Bounds.due("time of the last of sixteen", x.time(15, 50), 99);
        StringBuilder many = new StringBuilder("in a;in b;");
        for (int p = 0; p < 15; p++) {
            many.append("place a+>b+1;");
        }
        Bounds.tell(x, many + "place b+>a+1;place a+>b+0;");
        beats("the last of seventeen PLACES", x, 2, 1, 3);
        // two rings of one beat, that share a+
        Bounds.tell(x, "in a;in b;in c;place a+>b+ 0;place b+>a+ 1;place a+>c+ 0;place c+>a+ 1;");
        beats("both", x, 2, 1, 7);
        x.delay(1, 2);
        beats("b's alone", x, 3, 1, 3);
        x.delay(2, 3);
        beats("c's alone", x, 4, 1, 5);
        x.delay(1, 3);
        beats("both again", x, 4, 1, 7);
    }

    private static void fractions() {
        Bounds.terms(23, "Fractions are in lowest terms, the denominator above 0.");
        WaitingWires x = Checks.told(String.format(TWELVE, 1));
        beats("12 by 12", x, 1, 1, 4095);
        x.delay(7, 2);
        beats("13 by 12", x, 13, 12, 4095);
        x.delay(7, 3);
        beats("14 by 12", x, 7, 6, 4095);
        x.delay(7, 20);
        x.delay(8, 20);
        beats("50 by 12", x, 25, 6, 4095);
        // 5 by 2 against 7 by 3 against 9 by 4
        Bounds.tell(x, "in a;in b;place a+>a-1;place a->a+1;place a+/1>a-/1 1;place a-/1>b+1;place b+>a+/1 1;place b->b+/1 1;"
            + "place b+/1>b-/1 1;place b-/1>b+/2 1;place b+/2>b-1;");
        delays(x, 4, 1, 5, 1, 1, 6);
        beats("5 by 2", x, 5, 2, 3);
        x.delay(0, 3);
        beats("7 by 3", x, 7, 3, 28);
        x.delay(2, 4);
        beats("9 by 4", x, 9, 4, 32 + 64 + 128 + 256);
        x.delay(5, 1);
        beats("4 by 2, 6 by 3", x, 2, 1, 31);
    }

    private static void rings() {
        Bounds.terms(23, "BEAT: the greatest, over all rings of EVENTS, of their DELAYS, summed, by TOKENS of the PLACES between them, "
            + "summed.");
        // of two PLACES between two EVENTS the one without a TOKEN makes the slower ring
        WaitingWires x = Checks.told("in a;in b;place a+>b+ 1;place a+>b+ 0;place b+>a+ 1;");
        beats("two PLACES", x, 2, 1, 3);
        // a short ring may be slower than a long one with more TOKENS, and the other way round
        Bounds.tell(x, "in a;in b;place a+>b+ 0;place b+>a+ 1;place b+>a- 1;place a->b- 1;place b->a+ 1;");
        delays(x, 3, 1, 4, 4);
        // a+ b+: 4 by 1; all four: 12 by 3
        beats("as slow as the other", x, 4, 1, 15);
        x.delay(2, 5);
        beats("the long one", x, 13, 3, 15);
        x.delay(2, 3);
        beats("the short one", x, 4, 1, 3);
        // one that is on no ring takes no part
        Bounds.tell(x, "in a;in b;place a+>a+ 1;place a+>b+ 0;place b->a+ 1;");
        delays(x, 2, 20, 20);
        beats("on no ring", x, 2, 1, 1);
        Bounds.terms(23, "If each PLACE is fed by one EVENT and one takes from it:");
        Bounds.tell(x, "in a;in b;place a+>a+ 1;place b+>b- 0;");
        beats("all are", x, 1, 1, 1);
        String[] wrong = {"in a;in b;place a+>a+ 1;place>b- 0;", "in a;in b;place a+>a+ 1;place b+ a+>b- 0;",
            "in a;in b;place a+>a+ 1;place b+>b- a+ 0;"};
        for (String text : wrong) {
            Bounds.due("'" + text + "'", Checks.told(text).beat(0), STATE);
            Bounds.due("time of '" + text + "'", Checks.told(text).time(0, 1), STATE);
        }
    }

    private static void beatRefused() {
        Bounds.of(23, "BAD; STATE: a PLACE is not as told, a ring has no TOKEN;");
        int[] noWhat = {-1, 3, 4};
        String[] wrong = {"in a;place>a+ 1;", "in a;place a+ a->a+ 1;", "in a;place a+>a+ a- 1;", "in a;place a+>a+ 0;",
            "in a;in b;place a+>a+ 1;place b+>b- 0;place b->b+ 0;", "in a;in b;place a+>b+ 1;place a+>b+ 0;place b+>a+ 0;"};
        for (String text : wrong) {
            WaitingWires x = Checks.told(text);
            for (int what = 0; what < 3; what++) {
                Bounds.due("'" + text + "' beat(" + what + ")", x.beat(what), STATE);
            }
            Bounds.dueForAll("BAD first", noWhat, x::beat, BAD);
        }
        WaitingWires x = Checks.told(Texts.LATCH);
        Bounds.dueForAll("what", noWhat, x::beat, BAD);
        Bounds.dueForAll("what", Bounds.FAR, x::beat, BAD);
        Bounds.of(23, "NONE: there is no ring.");
        String[] none = {"", "in a;", "in a;place a+>a- 1;", "in a;in b;place a+>a- 0;place a+>b+ 0;place b+>a- 1;"};
        for (String text : none) {
            WaitingWires y = Checks.told(text);
            for (int what = 0; what < 3; what++) {
                Bounds.due("'" + text + "' beat(" + what + ")", y.beat(what), NONE);
            }
            Bounds.dueForAll("BAD first", noWhat, y::beat, BAD);
        }
        Bounds.due("STATE first", Checks.told("in a;place a+>a- 1;place>a+ 0;").beat(0), STATE);
    }

    private static void time() {
        Bounds.of(24, "TIME of an EVENT's time k (1 to 50): when it ends.");
        WaitingWires x = Checks.told(Texts.LATCH);
        delays(x, 7, 1, 20, 1);
        int[] ends = {7, 8, 28, 29};
        for (int e = 0; e < 4; e++) {
            for (int k = 1; k <= 50; k++) {
                Bounds.due("time(" + e + ", " + k + ")", x.time(e, k), ends[e] + 29 * (k - 1));
            }
        }
        Bounds.tell(x, String.format(TWELVE, 0));
        for (int e = 0; e < 12; e++) {
            x.delay(e, 20);
        }
        Bounds.due("the greatest of twelve", x.time(11, 50), 12000);
        Bounds.tell(x, String.format(TWELVE, 1));
        x.delay(3, 13);
        // each waits for the one ahead: e+ takes its TOKEN of the beginning, then that of d+
        Bounds.due("d+ at once", x.time(3, 1), 13);
        Bounds.due("e+ at once", x.time(4, 1), 1);
        Bounds.due("e+ behind d+", x.time(4, 2), 14);
        Bounds.due("d+ need not wait for itself", x.time(3, 2), 14);
        Bounds.due("a+ waits for f- of the time before", x.time(0, 2), 2);
    }

    private static void begins() {
        Bounds.terms(24, "TIME of an EVENT's time k (from 1 on): it begins when all that it takes is there (TOKENS of the beginning at 0, "
            + "others when the EVENT that feeds them ends), it ends its DELAY later; an EVENT takes of each PLACE the TOKENS in the "
            + "order in which they come.");
        WaitingWires x = Checks.told("in a;in b;in c;place a+>a+1;place c+>c+1;place a+>b+0;place c+>b+0;");
        delays(x, 3, 5, 2);
        Bounds.due("b+ when both ended", x.time(2, 1), 7);
        Bounds.due("b+ when both ended twice", x.time(2, 2), 12);
        Bounds.due("a+ waits for none", x.time(0, 50), 150);
        // TOKENS gather in front of b+
        Bounds.tell(x, "in a;in b;place a+>a+1;place a+>b+1;place b+>b+1;");
        delays(x, 1, 4);
        Bounds.due("the TOKEN of the beginning", x.time(1, 1), 4);
        Bounds.due("then its own ring holds it", x.time(1, 50), 200);
        delays(x, 6, 1);
        Bounds.due("then it waits for a+", x.time(1, 3), 13);
        // it may begin again ahead of its end, if what it takes is there
        Bounds.tell(x, "in a;in b;place a+>a+1;place a+>b+0;");
        delays(x, 1, 20);
        Bounds.due("b+", x.time(1, 1), 21);
        Bounds.due("b+ again", x.time(1, 2), 22);
    }

    private static void timeRefused() {
        Bounds.of(24, "BAD; STATE as told;");
        WaitingWires x = Checks.told(Texts.LATCH);
        int[] noTimes = {0, -1, 51, 52};
        int[] noEvent = {-1, 4, 16};
        Bounds.dueForAll("k", noTimes, i -> x.time(0, i), BAD);
        Bounds.dueForAll("k", Bounds.FAR, i -> x.time(0, i), BAD);
        Bounds.dueForAll("e", noEvent, i -> x.time(i, 1), BAD);
        Bounds.dueForAll("e", Bounds.FAR, i -> x.time(i, 1), BAD);
        String[] wrong = {"in a;place>a+ 1;", "in a;place a+ a->a+ 1;", "in a;place a+>a+ a- 1;", "in a;place a+>a+ 0;",
            "in a;in b;place a+>a+ 1;place b+>b- 0;place b->b+ 0;"};
        for (String text : wrong) {
            WaitingWires y = Checks.told(text);
            Bounds.due("'" + text + "'", y.time(0, 1), STATE);
            Bounds.due("'" + text + "'", y.time(0, 50), STATE);
            Bounds.dueForAll("BAD first", noTimes, i -> y.time(0, i), BAD);
        }
    }

    private static void never() {
        Bounds.of(24, "NONE: it never comes so often.");
        // a+ takes from none, so it never comes: a- comes once, b+ twice
        WaitingWires x = Checks.told("in a;in b;place a+>a- 1;place a->b+ 1;place a+>b- 0;");
        x.delay(1, 4);
        int[][] due = {{NONE, NONE, NONE}, {4, NONE, NONE}, {1, 5, NONE}, {NONE, NONE, NONE}};
        for (int e = 0; e < 4; e++) {
            for (int k = 1; k <= 3; k++) {
                Bounds.due("time(" + e + ", " + k + ")", x.time(e, k), due[e][k - 1]);
            }
            Bounds.due("time(" + e + ", 50)", x.time(e, 50), NONE);
            Bounds.due("time(" + e + ", 51)", x.time(e, 51), BAD);
        }
    }
}

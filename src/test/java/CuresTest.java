/** Promises 19 to 21: one wire more, as it would be, as it is done, searched. */
public final class CuresTest {
    private static final int BAD = WaitingWires.BAD, STATE = WaitingWires.STATE, FULL = WaitingWires.FULL,
        NONE = WaitingWires.NONE;
    private static final String QUARREL = Texts.QUARREL;
    private static final String FORK = Texts.FORK;
    private static final String LATCH = Texts.LATCH;

    public static void main(String[] args) {
        would();
        cure();
        cures();
        refused();
        full();
        Checks.finish();
    }

    private static void would() {
        WaitingWires x = Checks.told(QUARREL);
        Checks.due("it cures", x.would(0, 4), 0);
        Checks.due("it does not", x.would(2, 3), 1);
        Checks.due("nothing is changed", x.count(0), 3);
        Checks.due("nothing is changed", x.quarrels(1), 1);
        // a rise behind one way, a fall behind the other: it would rise twice
        Checks.tell(x, "in a;in b;place a- b->a+ b+ 1;place a+>a- 0;place b+>b- 0;");
        Checks.due("not right then", x.would(0, 1), -10);
        Checks.due("right then", x.would(2, 0), 0);
        // b+ is taken back by a+, whatever is done behind
        Checks.tell(x, FORK);
        Checks.due("back(0)", x.back(0), 1);
        Checks.due("taken back then", x.would(5, 0), -11);
        // b+ is held by a+ no more, but the new wire is: it is excited behind b+ and waits beside a+
        Checks.tell(x, "in a;out b;place b->b+ 1;place b+>b- 0;place>a+ 1;");
        Checks.due("none is taken back", x.would(1, 0), 0);
    }

    private static void cure() {
        WaitingWires x = Checks.told(QUARREL);
        x.delay(1, 5);
        x.come(0);
        Checks.due("cure(1, 4)", x.cure(1, 4), 3);
        int[] wire = {3, 2, 2};
        for (int what = 0; what < 3; what++) {
            Checks.due("wire(3, " + what + ")", x.wire(3, what), wire[what]);
        }
        int[][] events = {{3, 1, 0, 64, 2, 1}, {3, 0, 0, 128, 16, 1}};
        for (int what = 0; what < 6; what++) {
            Checks.due("the rise, " + what, x.event(6, what), events[0][what]);
            Checks.due("the fall, " + what, x.event(7, what), events[1][what]);
        }
        Checks.due("e feeds the new place alone", x.event(1, 4), 64);
        Checks.due("f feeds the new place alone", x.event(4, 4), 128);
        Checks.due("what e fed", x.place(1, 0), 64);
        int[][] places = {{2, 64, 0}, {16, 128, 0}};
        for (int what = 0; what < 3; what++) {
            Checks.due("place of e, " + what, x.place(6, what), places[0][what]);
            Checks.due("place of f, " + what, x.place(7, what), places[1][what]);
        }
        Checks.due("a delay stays", x.event(1, 5), 5);
        Checks.due("the run begins anew", x.run(2), 0);
        Checks.due("its marking", x.run(0), 32);
        Checks.due("states()", x.states(), 8);
        Checks.due("quarrels(1)", x.quarrels(1), 0);
        Checks.due("cost()", x.cost(), 6);
        // a letter that is free between others
        Checks.tell(x, "in c;out a;place a->c+ 1;place c+>a+ 0;place a+>c- 0;place c->a- 0;");
        Checks.due("cure(0, 1)", x.cure(0, 1), 2);
        Checks.due("b", x.wire(2, 0), 1);
        Checks.due("cure(0, 1)", x.cure(0, 1), 3);
        Checks.due("d", x.wire(3, 0), 3);
        Checks.tell(x, "in c;out b;place b->c+ 1;place c+>b+ 0;place b+>c- 0;place c->b- 0;");
        x.cure(0, 1);
        Checks.due("a", x.wire(2, 0), 0);
        // it is done, be it a cure or not
        Checks.tell(x, "in a;in b;place a- b->a+ b+ 1;place a+>a- 0;place b+>b- 0;");
        Checks.due("cure(0, 1)", x.cure(0, 1), 2);
        Checks.due("not right then", x.right(), 0);
        Checks.due("STATE now", x.cure(0, 1), STATE);
        // c+ feeds two places, c- two that have a token at first
        Checks.tell(x, "in a;in b;out c;place c->a+ 1;place c->b+ 1;place a+>c+ 0;place b+>c+ 0;place c+>a- 0;place c+>b- 0;"
            + "place a->c- 0;place b->c- 0;");
        Checks.due("cure(3, 0)", x.cure(3, 0), 3);
        Checks.due("the rise feeds all that c+ fed", x.event(6, 4), 16 + 32);
        Checks.due("the fall feeds all that c- fed", x.event(7, 4), 1 + 2);
        Checks.due("tokens stay", x.count(3), 2);
        // a- and b- feed one place
        Checks.tell(x, FORK);
        Checks.due("cure(3, 5)", x.cure(3, 5), 3);
        Checks.due("the place that two fed", x.place(3, 0), 16 + 64);
    }

    private static void cures() {
        WaitingWires x = Checks.told(QUARREL);
        Checks.due("cures(0)", x.cures(0), 4);
        Checks.due("cures(1)", x.cures(1), 6);
        Checks.due("cures(0) again", x.cures(0), 4);
        Checks.due("nothing is changed", x.count(0), 3);
        int[] wrong = {-1, 2, Integer.MIN_VALUE, Integer.MAX_VALUE};
        for (int what : wrong) {
            Checks.due("cures(" + what + ")", x.cures(what), BAD);
        }
        int found = 0;
        int first = NONE;
        for (int e = 0; e < 6; e++) {
            for (int f = 0; f < 6; f++) {
                if (x.would(e, f) == 0) {
                    first = found == 0 ? 100 * e + f : first;
                    found++;
                }
            }
        }
        Checks.due("as would() has it", found, 6);
        Checks.due("as would() has it", first, 4);
        x.cure(1, 4);
        Checks.due("all of them asked first", Checks.told(QUARREL).cures(1), 6);
        Checks.due("behind a cure cures(1) is another", x.cures(1) == 6 ? 1 : 0, 0);
        Checks.tell(x, "out a;");
        Checks.due("no events: cures(0)", x.cures(0), NONE);
        Checks.due("no events: cures(1)", x.cures(1), 0);
        // a net that takes back: nothing cures it
        Checks.tell(x, FORK);
        Checks.due("none: cures(0)", x.cures(0), NONE);
        Checks.due("none: cures(1)", x.cures(1), 0);
    }

    private static void refused() {
        WaitingWires x = Checks.told(LATCH);
        int[][] wrong = {{0, 0}, {3, 3}, {-1, 0}, {0, -1}, {4, 0}, {0, 4}, {Integer.MAX_VALUE, 1}, {1, Integer.MIN_VALUE}};
        for (int[] w : wrong) {
            Checks.due("would(" + w[0] + ", " + w[1] + ")", x.would(w[0], w[1]), BAD);
            Checks.due("cure(" + w[0] + ", " + w[1] + ")", x.cure(w[0], w[1]), BAD);
        }
        Checks.tell(x, "in a;place a+>a+ a- 1;");
        Checks.due("not right", x.right(), 0);
        Checks.due("would", x.would(0, 1), STATE);
        Checks.due("cure", x.cure(0, 1), STATE);
        Checks.due("cures", x.cures(0), STATE);
        Checks.due("BAD first", x.would(1, 1), BAD);
        Checks.due("BAD first", x.cures(2), BAD);
    }

    private static void full() {
        WaitingWires x = Checks.told("in c;in d;in e;in f;" + LATCH);
        Checks.due("six wires: would", x.would(0, 1), FULL);
        Checks.due("six wires: cure", x.cure(0, 1), FULL);
        Checks.due("six wires: cures", x.cures(0), FULL);
        Checks.due("six wires: cures", x.cures(1), FULL);
        Checks.due("six wires: BAD first", x.would(0, 0), BAD);
        Checks.due("six wires: BAD first", x.cures(2), BAD);
        // fifteen events, then fourteen, of which one alone comes
        Checks.tell(x, events(15));
        Checks.due("fifteen events", x.count(1), 15);
        Checks.due("fifteen events: would", x.would(0, 1), FULL);
        Checks.tell(x, events(14));
        Checks.due("fourteen events: cure", x.cure(0, 1), 1);
        Checks.due("sixteen events then", x.count(1), 16);
        StringBuilder places = new StringBuilder("in a;place a->a+1;place a+>a-0;");
        for (int p = 2; p < 19; p++) {
            places.append("place>a-0;");
        }
        // none of them ever has a token, so a- never comes
        Checks.due("nineteen places", Checks.tell(x, places.toString()), 19);
        Checks.due("nineteen places: would", x.would(0, 1), FULL);
        places.setLength(places.length() - 10);
        Checks.due("eighteen places", Checks.tell(x, places.toString()), 18);
        Checks.due("eighteen places: cure", x.cure(0, 1), 1);
        Checks.due("twenty places then", x.count(2), 20);
        Checks.due("full then", x.cures(0), FULL);
        // not right and full: STATE first
        Checks.tell(x, "in c;in d;in e;in f;in a;in b;place a+>a+ a- 1;");
        Checks.due("STATE first", x.cure(0, 1), STATE);
    }

    private static String events(int n) {
        StringBuilder s = new StringBuilder("in a;place>a+1;place>");
        for (int i = 1; i < n; i++) {
            s.append(i < 8 ? "a+/" : "a-/").append(i % 8).append(' ');
        }
        return s.append("0;").toString();
    }
}

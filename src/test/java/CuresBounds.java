import java.util.function.Supplier;

/** Promises 19 to 21, sentence by sentence: one wire more, as it would be, as it is done, searched. */
final class CuresBounds {
    private static final int BAD = Bounds.BAD, STATE = Bounds.STATE, FULL = Bounds.FULL, NONE = Bounds.NONE;
    /** Four wires that rise and fall, one that rises, side by side: 3 * 3 * 3 * 3 * 2 states. */
    private static final String MANY = "in a;in b;in c;in d;out e;place>a+1;place a+>a-0;place>b+1;place b+>b-0;place>c+1;"
        + "place c+>c-0;place>d+1;place d+>d-0;place>e+1;";
    /** b- and a+ side by side, a- behind both, b+: c must go with b+ and a+ (events 2 and 3). */
    private static final String NARROW = "in a;out b;place b->a- 0;place a->b+ 0;place a+>a- 0;place b+>b- 1;place b+>a+ 1;";
    private static final String CHOICE = "in a;in b;place a- b->a+ b+ 1;place a+>a- 0;place b+>b- 0;";

    private CuresBounds() { }

    static void all() {
        would();
        wouldRefused();
        cure();
        newParts();
        cureRefused();
        full();
        cures();
        curesRefused();
    }

    private static void would() {
        Bounds.of(19, "CURE by e, f, as it would be: QUARRELS that there are then;");
        WaitingWires x = Checks.told(Texts.QUARREL);
        Bounds.due("none", x.would(1, 4), 0);
        Bounds.due("one", x.would(2, 3), 1);
        Bounds.due("the last EVENT and the first", x.would(5, 0), 1);
        // what it would be is what it is when it is done
        for (int e = 0; e < 6; e++) {
            for (int f = 0; f < 6; f++) {
                WaitingWires y = Checks.told(Texts.QUARREL);
                int answer = x.would(e, f);
                if (e != f) {
                    Bounds.due("cure(" + e + ", " + f + ")", y.cure(e, f), 3);
                    Bounds.due("quarrels(1) behind " + e + ", " + f, y.quarrels(1), answer);
                }
            }
        }
        Bounds.refused(Texts.used(Texts.QUARREL), "would(1, 4)", y -> y.would(1, 4), 0);
        Bounds.of(19, "-10: it is not RIGHT;");
        Bounds.tell(x, CHOICE);
        Bounds.due("it rises on one way, falls on the other", x.would(0, 1), -10);
        Bounds.due("it rises and falls on one way", x.would(2, 0), 0);
        Bounds.tell(x, MANY);
        Bounds.due("162 STATES", x.states(), 162);
        Bounds.due("a 201st", x.would(0, 1), -10);
        Bounds.due("a 201st, too", x.would(0, 2), -10);
        Bounds.of(19, "-11: some are TAKEN BACK.");
        Bounds.tell(x, Texts.FORK);
        Bounds.due("as they are now", x.would(5, 0), -11);
        Bounds.refused(Texts.used(Texts.FORK), "would(5, 0)", y -> y.would(5, 0), -11);
    }

    private static final int[][] WRONG_PAIRS = {{0, 0}, {3, 3}, {-1, 0}, {0, -1}, {-1, -1}, {4, 0}, {0, 4}, {4, 4}, {16, 1},
        {Bounds.MIN, 1}, {1, Bounds.MIN}, {Bounds.MAX, 1}, {1, Bounds.MAX}};

    private static void wouldRefused() {
        Bounds.of(19, "BAD: also one and the same;");
        for (int[] pair : WRONG_PAIRS) {
            Bounds.refused(Texts.used(Texts.LATCH), "would(" + pair[0] + ", " + pair[1] + ")", x -> x.would(pair[0], pair[1]), BAD);
        }
        Bounds.of(19, "STATE: not RIGHT now;");
        String[] wrong = {Texts.NOT_RIGHT, Texts.UNSAFE, Texts.ONE_STATE_MORE};
        for (String text : wrong) {
            Bounds.due("would(0, 1)", Checks.told(text).would(0, 1), STATE);
            Bounds.due("BAD first", Checks.told(text).would(1, 1), BAD);
        }
    }

    private static void cure() {
        Bounds.of(20, "It is done: the number of the new WIRE.");
        WaitingWires x = Checks.told("out a;place>a+ 1;place a+>a- 0;");
        for (int w = 1; w < 6; w++) {
            Bounds.due("WIRE " + w, x.cure(0, 1), w);
            Bounds.due("WIRES", x.count(0), w + 1);
            Bounds.due("EVENTS", x.count(1), 2 + 2 * w);
            Bounds.due("PLACES", x.count(2), 2 + 2 * w);
        }
        Bounds.due("no seventh", x.cure(0, 1), FULL);
        // it is done, be it a CURE or not
        Bounds.tell(x, CHOICE);
        Bounds.due("it is not RIGHT then", x.cure(0, 1), 2);
        Bounds.due("right()", x.right(), 0);
        Bounds.due("and none more", x.cure(0, 1), STATE);
        Bounds.of(20, "(DELAYS of the new EVENTS are 1; THE RUN begins anew.)");
        x = Texts.used(Texts.QUARREL).get();
        Bounds.due("three came", x.run(2), 3);
        x.cure(1, 4);
        Bounds.due("none came", x.run(2), 0);
        Bounds.due("the first MARKING", x.run(0), 32);
        Bounds.due("undo()", x.undo(), NONE);
        int[] delays = {1, 2, 3, 1, 2, 3, 1, 1};
        for (int e = 0; e < 8; e++) {
            Bounds.due("DELAY of " + e, x.event(e, 5), delays[e]);
        }
        Bounds.due("beat(0)", x.beat(0), 14);
        // nothing found of the net before is left
        x = Checks.told(Texts.QUARREL);
        WaitingWires y = Checks.told(Texts.QUARREL);
        Look.at(x);
        x.cure(0, 4);
        y.cure(0, 4);
        Bounds.due("as done to a new one", Look.at(x).equals(Look.at(y)) ? 1 : 0, 1);
    }

    private static void newParts() {
        Bounds.terms(20, "A CURE by EVENTS e, f (unlike): one inner WIRE more (the first LETTER that is no WIRE), whose rise comes "
            + "straight behind e, its fall straight behind f: e feeds a new PLACE alone, from which the rise takes, and that feeds "
            + "all that e fed ahead; likewise f.");
        String[] texts = {"in b;out c;", "in a;out c;", "in b;out a;", "in a;out b;"};
        int[] letters = {0, 1, 2, 2};
        for (int i = 0; i < 4; i++) {
            char p = texts[i].charAt(3);
            char q = texts[i].charAt(9);
            WaitingWires x = Checks.told(texts[i] + Texts.LATCH.substring(11).replace('a', 'A').replace('b', q)
                .replace('A', p).replace("pl" + p + "ce", "place"));
            Bounds.due("cure", x.cure(2, 1), 2);
            Bounds.due("LETTER beside '" + texts[i] + "'", x.wire(2, 0), letters[i]);
            Bounds.due("kind", x.wire(2, 1), 2);
        }
        // c+ feeds two PLACES, c- two that have a TOKEN
        WaitingWires x = Checks.told(Texts.MEET);
        Bounds.due("c- is 0, c+ is 3", x.event(0, 1) * 10 + x.event(3, 1), 1);
        Bounds.due("cure(3, 0)", x.cure(3, 0), 3);
        Bounds.due("c+ feeds a new PLACE alone", x.event(3, 4), 1 << 8);
        Bounds.due("c- feeds a new PLACE alone", x.event(0, 4), 1 << 9);
        Bounds.due("the rise takes from it", x.event(6, 3), 1 << 8);
        Bounds.due("the fall takes from it", x.event(7, 3), 1 << 9);
        Bounds.due("the rise feeds what c+ fed", x.event(6, 4), 16 + 32);
        Bounds.due("the fall feeds what c- fed", x.event(7, 4), 1 + 2);
        int[] feeders = {128, 128, 2, 4, 64, 64, 16, 32, 8, 1};
        for (int p = 0; p < 10; p++) {
            Bounds.due("what feeds PLACE " + p, x.place(p, 0), feeders[p]);
        }
        Bounds.due("TOKENS stay", x.count(3), 2);
        // a+ feeds nothing; a- and b- feed one PLACE
        Bounds.tell(x, "in a;place>a+ 1;place>a- 0;");
        x.cure(0, 1);
        Bounds.due("nothing was fed", x.event(2, 4), 0);
        Bounds.tell(x, Texts.FORK);
        x.cure(3, 4);
        Bounds.due("one PLACE that both fed", x.place(3, 0), 64 + 128);
        Bounds.terms(20, "(EVENTS: the rise, then the fall, INDEX 0; PLACES: that of e, then that of f.)");
        Bounds.tell(x, Texts.LATCH);
        x.cure(3, 1);
        int[][] events = {{2, 1, 0, 16, 8, 1}, {2, 0, 0, 32, 2, 1}};
        int[][] places = {{8, 16, 0}, {2, 32, 0}};
        for (int what = 0; what < 6; what++) {
            Bounds.due("the rise: " + what, x.event(4, what), events[0][what]);
            Bounds.due("the fall: " + what, x.event(5, what), events[1][what]);
        }
        for (int what = 0; what < 3; what++) {
            Bounds.due("PLACE of e: " + what, x.place(4, what), places[0][what]);
            Bounds.due("PLACE of f: " + what, x.place(5, what), places[1][what]);
        }
    }

    private static void cureRefused() {
        Bounds.of(20, "BAD; STATE; FULL likewise.");
        for (int[] pair : WRONG_PAIRS) {
            Bounds.refused(Texts.used(Texts.LATCH), "cure(" + pair[0] + ", " + pair[1] + ")", x -> x.cure(pair[0], pair[1]), BAD);
        }
        String[] wrong = {Texts.NOT_RIGHT, Texts.UNSAFE, Texts.ONE_STATE_MORE};
        for (String text : wrong) {
            Bounds.refused(Texts.used(text), "cure(0, 1)", x -> x.cure(0, 1), STATE);
        }
        Bounds.refused(Texts.used("in c;in d;in e;in f;" + Texts.LATCH), "cure(0, 1)", x -> x.cure(0, 1), FULL);
        Bounds.refused(Texts.used(Texts.events(15)), "cure(0, 1)", x -> x.cure(0, 1), FULL);
        Bounds.refused(Texts.used(Texts.places(19)), "cure(0, 1)", x -> x.cure(0, 1), FULL);
    }

    private static void full() {
        Bounds.of(19, "FULL: no WIRE, EVENTS, PLACES more can be.");
        String[] tooMany = {"in c;in d;in e;in f;" + Texts.LATCH, Texts.events(15), Texts.events(16), Texts.places(19), Texts.places(20)};
        for (String text : tooMany) {
            Supplier<WaitingWires> made = Texts.used(text);
            Bounds.refused(made, "would(0, 1)", x -> x.would(0, 1), FULL);
            Bounds.due("BAD first", made.get().would(0, 0), BAD);
            Bounds.due("cures(0)", made.get().cures(0), FULL);
            Bounds.due("cures(1)", made.get().cures(1), FULL);
        }
        String[] asMany = {"in c;in d;in e;" + Texts.LATCH, Texts.events(14), Texts.places(18)};
        for (String text : asMany) {
            WaitingWires x = Checks.told(text);
            Bounds.due("would(0, 1) of '" + text + "'", x.would(0, 1) == FULL ? 1 : 0, 0);
            Bounds.due("cure(0, 1) of '" + text + "'", x.cure(0, 1), x.count(0) - 1);
            Bounds.due("then it is FULL", x.right() == 1 ? x.would(0, 1) : FULL, FULL);
        }
        WaitingWires x = Checks.told("in b;in c;in d;in e;in f;" + Texts.NOT_RIGHT);
        Bounds.due("STATE ahead of FULL", x.would(0, 1), STATE);
    }

    private static void cures() {
        Bounds.of(21, "The first e, f (by e, then f) that CURE: 100 e and f (what 0), how many such pairs (1).");
        String[] texts = {Texts.QUARREL, Texts.LATCH, Texts.MEET, Texts.FORK, CHOICE, MANY, NARROW, "out a;", "out a;place>a+ 1;",
            "in a;place>a+ 1;place>a- 0;"};
        for (String text : texts) {
            WaitingWires x = Checks.told(text);
            int first = NONE;
            int pairs = 0;
            for (int e = x.count(1) - 1; e >= 0; e--) {
                for (int f = x.count(1) - 1; f >= 0; f--) {
                    boolean cures = x.would(e, f) == 0;
                    first = cures ? 100 * e + f : first;
                    pairs += cures ? 1 : 0;
                }
            }
            Bounds.due("cures(0) of '" + text + "'", x.cures(0), first);
            Bounds.due("cures(1) of '" + text + "'", x.cures(1), pairs);
            Bounds.due("cures(0) of '" + text + "', again", x.cures(0), first);
            Bounds.due("cures(1) of '" + text + "', first of all", Checks.told(text).cures(1), pairs);
        }
        Bounds.due("0 and 4", Checks.told(Texts.QUARREL).cures(0), 4);
        Bounds.due("six pairs", Checks.told(Texts.QUARREL).cures(1), 6);
        Bounds.due("2 and 3", Checks.told(NARROW).cures(0), 203);
        Bounds.due("two pairs", Checks.told(NARROW).cures(1), 2);
        Bounds.due("two pairs, of which one EVENT never comes", Checks.told("in a;place>a+ 1;place>a- 0;").cures(1), 2);
        Bounds.terms(21, "It CURES, if the net is RIGHT then, has no QUARREL and none TAKEN BACK.");
        Bounds.due("none is RIGHT", Checks.told(MANY).cures(1), 0);
        Bounds.due("each has one TAKEN BACK", Checks.told(Texts.FORK).cures(1), 0);
        Bounds.due("some have a QUARREL", Checks.told(Texts.QUARREL).would(2, 3), 1);
        // in the end all is as it was at first, but a rises no more
        Bounds.due("each has a QUARREL", Checks.told("out a;place>a+ 1;place a+>a- 0;").cures(1), 0);
        Bounds.due("in WIRES have none", Checks.told("in a;place>a+ 1;place a+>a- 0;").cures(1), 2);
    }

    private static void curesRefused() {
        Bounds.of(21, "BAD; STATE: not RIGHT; FULL; NONE (0).");
        int[] noWhat = {-1, 2, 3, 10};
        WaitingWires x = Checks.told(Texts.QUARREL);
        Bounds.dueForAll("what", noWhat, x::cures, BAD);
        Bounds.dueForAll("what", Bounds.FAR, x::cures, BAD);
        String[] wrong = {Texts.NOT_RIGHT, Texts.UNSAFE, Texts.ONE_STATE_MORE, "in b;in c;in d;in e;in f;" + Texts.NOT_RIGHT};
        for (String text : wrong) {
            WaitingWires y = Checks.told(text);
            Bounds.due("cures(0)", y.cures(0), STATE);
            Bounds.due("cures(1)", y.cures(1), STATE);
            Bounds.dueForAll("BAD first", noWhat, y::cures, BAD);
        }
        x = Checks.told(Texts.SIX_WIRES);
        Bounds.due("FULL, though there are no EVENTS", x.cures(0), FULL);
        Bounds.due("FULL, though there are no EVENTS", x.cures(1), FULL);
        Bounds.dueForAll("BAD first", noWhat, x::cures, BAD);
        x = Checks.told("out a;");
        Bounds.due("none", x.cures(0), NONE);
        Bounds.due("no pairs", x.cures(1), 0);
        Bounds.refused(Texts.used(Texts.FORK), "cures(0)", y -> y.cures(0), NONE);
    }
}

import java.util.Arrays;

/** Promises 15 to 18, sentence by sentence: aims, the least sum of cubes, cubes that are judged, the cost. */
final class MakesBounds {
    private static final int BAD = Bounds.BAD, STATE = Bounds.STATE, NONE = Bounds.NONE;
    /** d is 1 in three states: a, b, e, f are 1 there; a, e and one of b, f tell them from all others. */
    private static final String TWO_WAYS = "in a;in b;in c;out d;in e;in f;place b->a+0;place a+>e-0;place e->f+0;place f+>b+0;"
        + "place b+>e+0;place e+>d+0;place d+>c+0;place c+>a-0;place a->d-0;place d->f-0;place f->c-0;place c->b-1;";

    private MakesBounds() { }

    static void all() {
        aim();
        aimRefused();
        makes();
        makesRefused();
        cubes();
        fewest();
        ofSeveral();
        judge();
        judgeRefused();
        judgeFaults();
        cost();
    }

    private static void sum(String text, int w, int letters, int... cubes) {
        WaitingWires x = Checks.told(text);
        String call = "'" + text + "' makes(" + w + ", ";
        Bounds.due(call + "0)", x.makes(w, 0), cubes.length);
        Bounds.due(call + "1)", x.makes(w, 1), letters);
        for (int i = 0; i < cubes.length; i++) {
            Bounds.due(call + "10 and " + i + ")", x.makes(w, 10 + i), cubes[i]);
        }
        Bounds.due(call + "10 and " + cubes.length + ")", x.makes(w, 10 + cubes.length), NONE);
        Bounds.due(call + "far behind)", x.makes(w, Bounds.MAX), NONE);
    }

    private static void aim() {
        Bounds.of(15, "AIM 1 for a WIRE at LEVELS: 1, 0, NONE: no STATE has these; -5: STATES with unlike AIMS have.");
        WaitingWires x = Checks.told(Texts.MEET);
        int[] c = {0, 0, 0, 1, 0, 1, 1, 1};
        int[] a = {1, 1, 1, 1, 0, 0, 0, 0};
        for (int levels = 0; levels < 8; levels++) {
            Bounds.due("c at " + levels, x.aim(2, levels), c[levels]);
            Bounds.due("a, an in WIRE, at " + levels, x.aim(0, levels), a[levels]);
        }
        Bounds.tell(x, Texts.QUARREL);
        int[] alike = {0, 1, 0, 1, 0, NONE, NONE, NONE};
        int[] unlike = {-5, 0, 0, 0, 0, NONE, NONE, NONE};
        for (int levels = 0; levels < 8; levels++) {
            Bounds.due("b at " + levels, x.aim(1, levels), alike[levels]);
            Bounds.due("c, of two minds, at " + levels, x.aim(2, levels), unlike[levels]);
        }
        Bounds.due("a, an in WIRE of two minds", x.aim(0, 0), -5);
    }

    private static void aimRefused() {
        Bounds.of(15, "BAD; STATE.");
        WaitingWires x = Checks.told("out a;");
        Bounds.due("one WIRE: LEVELS 0", x.aim(0, 0), 0);
        Bounds.due("one WIRE: LEVELS 1", x.aim(0, 1), NONE);
        Bounds.due("one WIRE: LEVELS 2", x.aim(0, 2), BAD);
        Bounds.tell(x, Texts.SIX_WIRES);
        Bounds.due("six WIRES: LEVELS 63", x.aim(5, 63), NONE);
        Bounds.due("six WIRES: LEVELS 64", x.aim(5, 64), BAD);
        Bounds.due("six WIRES: the 7th", x.aim(6, 0), BAD);
        Bounds.tell(x, Texts.MEET);
        int[] noLevels = {-1, 8, 9, 63, 64};
        int[] noWire = {-1, 3, 6};
        Bounds.dueForAll("LEVELS", noLevels, i -> x.aim(2, i), BAD);
        Bounds.dueForAll("LEVELS", Bounds.FAR, i -> x.aim(2, i), BAD);
        Bounds.dueForAll("WIRE", noWire, i -> x.aim(i, 0), BAD);
        Bounds.dueForAll("WIRE", Bounds.FAR, i -> x.aim(i, 0), BAD);
        WaitingWires y = Checks.told(Texts.NOT_RIGHT);
        Bounds.due("not RIGHT", y.aim(0, 0), STATE);
        Bounds.due("BAD first", y.aim(0, 2), BAD);
        Bounds.due("BAD first", y.aim(1, 0), BAD);
    }

    private static void makes() {
        Bounds.of(16, "MAKES of a WIRE: 0 how many CUBES, 1 LETTERS in all; 10 and i: CUBE i as taken (NONE).");
        sum("out a;", 0, 0);
        sum("inner a;place>a- 1;", 0, 0);
        sum("out a;place>a+ 1;", 0, 0, 2);
        sum("out a;place a->a+ 1;place a+>a- 0;", 0, 1, 0);
        sum(Texts.LATCH, 1, 1, 7);
        sum(Texts.MEET, 2, 6, 22, 16, 14);
        sum("out a;out b;out c;out d;out e;out f;place>f+1;", 5, 0, 728);
        // f falls when all others fell: 1 as long as one of them is
        sum("in a;in b;in c;in d;in e;out f;place>a-1;place>b-1;place>c-1;place>d-1;place>e-1;place a->f-0;place b->f-0;"
            + "place c->f-0;place d->f-0;place e->f-0;", 5, 5, 727, 725, 719, 701, 647);
    }

    private static void makesRefused() {
        Bounds.of(16, "BAD: also an in WIRE; STATE: not RIGHT, its AIMS QUARREL.");
        WaitingWires x = Checks.told(Texts.MEET);
        int[] noWhat = {-1, 2, 3, 8, 9, Bounds.MIN, Bounds.MIN + 1, -10};
        int[] noWire = {-1, 3, 6, 0, 1};
        int[] whats = {0, 1, 10, 12};
        Bounds.dueForAll("what", noWhat, i -> x.makes(2, i), BAD);
        for (int what : whats) {
            Bounds.dueForAll("WIRE", noWire, i -> x.makes(i, what), BAD);
            Bounds.dueForAll("WIRE", Bounds.FAR, i -> x.makes(i, what), BAD);
        }
        WaitingWires y = Checks.told(Texts.QUARREL);
        WaitingWires z = Checks.told(Texts.NOT_RIGHT);
        for (int what : whats) {
            Bounds.due("its AIMS QUARREL: " + what, y.makes(2, what), STATE);
            Bounds.due("not RIGHT: " + what, z.makes(0, what), STATE);
        }
        Bounds.dueForAll("BAD first", noWhat, i -> y.makes(2, i), BAD);
        Bounds.dueForAll("BAD first", noWhat, i -> z.makes(0, i), BAD);
        Bounds.due("an in WIRE, its AIMS QUARREL", y.makes(0, 0), BAD);
        Bounds.due("the AIMS of another one QUARREL", y.makes(1, 0), 1);
    }

    private static void cubes() {
        Bounds.terms(16, "A CUBE: for each WIRE 0, 1, or 2 (either), as figures to the base 3, WIRE 0 the lowest; it has the LEVELS "
            + "that agree.");
        // the last of a ring rises behind the one ahead of it, the first one when the last fell
        String ring = "out a;out b;out c;out d;out e;out f;place f->a+1;place a+>b+0;place b+>c+0;place c+>d+0;place d+>e+0;"
            + "place e+>f+0;place f+>a-0;place a->b-0;place b->c-0;place c->d-0;place d->e-0;place e->f-0;";
        sum(ring, 0, 1, 728 - 2 * 243);
        int power = 1;
        for (int w = 1; w < 6; w++) {
            sum(ring, w, 1, 728 - power);
            power *= 3;
        }
        // of 200 STATES: e is 1 where f is 0
        sum(Texts.RIGHT_TWO_HUNDRED.replace("in e", "out e"), 4, 1, 242);
        Bounds.terms(16, "LETTERS of it: WIRES that are not 2.");
        sum("out a;place>a+ 1;", 0, 0, 2);
        sum(TWO_WAYS, 3, 3, 403);
        // as all six rise and fall by themselves, a tells itself: it is 1 ahead of its rise alone
        sum("out a;in b;in c;in d;in e;in f;place a->a+1;place a+>a-0;", 0, 1, 726);
        Bounds.terms(16, "MAKES of an out or inner WIRE (without a QUARREL of its AIMS): a set of CUBES that has all LEVELS of STATES "
            + "whose AIM is 1, none whose AIM is 0.");
        sum(Texts.LATCH.replace("out b", "inner b"), 1, 1, 7);
        sum(Texts.QUARREL, 1, 1, 25);
    }

    private static void fewest() {
        Bounds.terms(16, "The fewest CUBES, then the fewest LETTERS in all");
        // 12 needs c, 3 needs d at 0, 9 needs a and b at 0
        sum("out a;in b;in c;in d;place a+>c-0;place c->d-0;place d->b+0;place b+>d+0;place d+>a-0;place a->b-0;place b->c+0;place c+>a+1;",
            0, 4, 26, 73, 71);
        // 2 needs d at 0, 25 needs b at 0; then c (233), not a and e at 0 (79), which is less, but has a LETTER more
        sum("out a;in b;in c;in d;in e;place c->b+0;place b+>a-0;place a->e-0;place e->d-0;place d->a+0;place a+>c+0;place c+>d+0;"
            + "place d+>b-0;place b->e+0;place e+>c-1;", 0, 3, 188, 233, 236);
        // one CUBE of three LETTERS, not one of its own LEVELS alone
        sum(TWO_WAYS, 3, 3, 403);
    }

    private static void ofSeveral() {
        Bounds.terms(16, "of several, one by one: for the least LEVELS (as a number) with AIM 1 that none has yet, the least CUBE with "
            + "which the fewest (CUBES, then LETTERS) can still be had.");
        // a, e, b (643) or a, e, f (403); d at 1 and others (386) would need a second one
        sum(TWO_WAYS, 3, 3, 403);
        // LEVELS 2: d at 0 (26) would need two more; c at 0 (62), then 6: a at 0 (78)
        sum("in a;out b;in c;in d;place d->c-0;place c->d+0;place d+>a+0;place a+>c+0;place c+>b-0;place b->a-0;place a->b+0;place b+>d-1;",
            1, 2, 62, 78);
        // 16 with 5 or with 22: LEVELS 2 has both 5 and 22
        sum("out a;out b;out c;place a+>c+ 0;place c+>b+ 0;place b+>c- 0;place c->c+/1 0;place c+/1>a- 0;place a->b- 0;place b->c-/1 0;"
            + "place c-/1>a+ 1;", 1, 4, 5, 16);
    }

    private static void lay(WaitingWires x, int k, int lane, int... cells) {
        x.sheet(k, lane, cells.length);
        for (int i = 0; i < cells.length; i++) {
            x.lay(k, i, cells[i]);
        }
    }

    private static void judge() {
        Bounds.of(17, "Whether CUBES read from a SHEET taken as of a lane, n (0 to 30) CELLS from f on, are a set that MAKES a WIRE, "
            + "be it the fewest or not: 1; 0: LEVELS with AIM 1 are missing; 2: it has some with AIM 0 (this first).");
        WaitingWires x = Checks.told(Texts.MEET);
        for (int lane = 0; lane < 3; lane++) {
            lay(x, lane, lane, 22, 16, 14, 13, 22, 26, 0);
            Bounds.due("the fewest", x.judge(2, lane, lane, 0, 3), 1);
            Bounds.due("more than the fewest", x.judge(2, lane, lane, 0, 4), 1);
            Bounds.due("one of them twice", x.judge(2, lane, lane, 0, 5), 1);
            Bounds.due("from the second on", x.judge(2, lane, lane, 1, 4), 1);
            Bounds.due("the first is missing", x.judge(2, lane, lane, 1, 3), 0);
            Bounds.due("the last is missing", x.judge(2, lane, lane, 0, 2), 0);
            Bounds.due("none at all", x.judge(2, lane, lane, 0, 0), 0);
            Bounds.due("some with AIM 0", x.judge(2, lane, lane, 0, 6), 2);
            Bounds.due("some with AIM 0, all else missing", x.judge(2, lane, lane, 6, 1), 2);
        }
        int[] thirty = new int[30];
        Arrays.fill(thirty, 22);
        thirty[28] = 16;
        thirty[29] = 14;
        lay(x, 3, 1, thirty);
        Bounds.due("30 CELLS", x.judge(2, 3, 1, 0, 30), 1);
        Bounds.due("29 CELLS", x.judge(2, 3, 1, 0, 29), 0);
        Bounds.tell(x, "out a;inner b;place>b+1;");
        Bounds.due("nothing is always 0", x.judge(0, 3, 1, 0, 0), 1);
        lay(x, 0, 0, 8);
        Bounds.due("an inner WIRE", x.judge(1, 0, 0, 0, 1), 1);
        Bounds.due("not of an out WIRE that is 0", x.judge(0, 0, 0, 0, 1), 2);
    }

    private static void judgeRefused() {
        Bounds.of(17, "BAD: w (an in WIRE, too), k, lane, n; STATE (as for makes());");
        WaitingWires x = Checks.told(Texts.MEET);
        lay(x, 0, 0, 22, 16, 14);
        int[] noWire = {-1, 0, 1, 3, 6};
        int[] noSheet = {-1, 4, 5};
        int[] noLane = {-1, 3, 4};
        int[] noCount = {-1, 31, 32, 64};
        Bounds.dueForAll("w", noWire, i -> x.judge(i, 0, 0, 0, 3), BAD);
        Bounds.dueForAll("k", noSheet, i -> x.judge(2, i, 0, 0, 3), BAD);
        Bounds.dueForAll("lane", noLane, i -> x.judge(2, 0, i, 0, 3), BAD);
        Bounds.dueForAll("n", noCount, i -> x.judge(2, 0, 0, 0, i), BAD);
        Bounds.dueForAll("w", Bounds.FAR, i -> x.judge(i, 0, 0, 0, 3), BAD);
        Bounds.dueForAll("k", Bounds.FAR, i -> x.judge(2, i, 0, 0, 3), BAD);
        Bounds.dueForAll("lane", Bounds.FAR, i -> x.judge(2, 0, i, 0, 3), BAD);
        Bounds.dueForAll("n", Bounds.FAR, i -> x.judge(2, 0, 0, 0, i), BAD);
        Bounds.dueForAll("BAD ahead of NULL", noCount, i -> x.judge(2, 1, 0, 0, i), BAD);
        String[] texts = {Texts.QUARREL, Texts.NOT_RIGHT, Texts.UNSAFE};
        for (String text : texts) {
            WaitingWires y = Checks.told(text);
            int w = y.count(0) - 1;
            Bounds.due("STATE", y.judge(w, 0, 0, 0, 1), STATE);
            Bounds.due("STATE of n 0", y.judge(w, 0, 0, 0, 0), STATE);
            Bounds.due("BAD ahead of STATE", y.judge(w, 0, 0, 0, 31), BAD);
            Bounds.due("BAD ahead of STATE", y.judge(w, 4, 0, 0, 1), BAD);
        }
        Bounds.due("the AIMS of another one QUARREL", Checks.told(Texts.QUARREL).judge(1, 0, 0, 0, 1), -11);
    }

    private static void judgeFaults() {
        Bounds.of(17, "-10 less the FAULT: NULL, CAST (of n 0, too), then CELL by CELL INDEX;");
        WaitingWires x = Checks.told(Texts.MEET);
        lay(x, 0, 0, 22, 16, 14);
        for (int lane = 0; lane < 3; lane++) {
            Bounds.due("NULL", x.judge(2, 1, lane, 0, 1), -11);
            Bounds.due("NULL of n 0", x.judge(2, 1, lane, 0, 0), -11);
            Bounds.due("NULL ahead of INDEX", x.judge(2, 1, lane, -1, 1), -11);
        }
        for (int lane = 1; lane < 3; lane++) {
            Bounds.due("CAST", x.judge(2, 0, lane, 0, 1), -13);
            Bounds.due("CAST of n 0", x.judge(2, 0, lane, 0, 0), -13);
            Bounds.due("CAST ahead of INDEX", x.judge(2, 0, lane, 3, 1), -13);
        }
        int[] outside = {-1, -2, 3, 4, 64};
        Bounds.dueForAll("INDEX", outside, i -> x.judge(2, 0, 0, i, 1), -12);
        Bounds.dueForAll("INDEX", Bounds.FAR, i -> x.judge(2, 0, 0, i, 30), -12);
        Bounds.dueForAll("no CELL, no INDEX", outside, i -> x.judge(2, 0, 0, i, 0), 0);
        Bounds.dueForAll("no CELL, no INDEX", Bounds.FAR, i -> x.judge(2, 0, 0, i, 0), 0);
        Bounds.due("INDEX of the fourth", x.judge(2, 0, 0, 0, 4), -12);
        Bounds.due("INDEX of the first, the second is there", x.judge(2, 0, 0, -1, 2), -12);
        x.sheet(2, 2, 0);
        Bounds.due("no CELLS", x.judge(2, 2, 2, 0, 1), -12);
        Bounds.due("no CELLS, none read", x.judge(2, 2, 2, 0, 0), 0);
        Bounds.of(17, "-20 less i (0 on): CELL f + i is no CUBE; the first met.");
        int[] thirty = new int[30];
        thirty[29] = 27;
        lay(x, 3, 2, thirty);
        Bounds.due("CELL 29 of 30", x.judge(2, 3, 2, 0, 30), -49);
        Bounds.due("CELL 29 ahead of INDEX", x.judge(2, 3, 2, 1, 30), -48);
        Bounds.due("from CELL 29 on", x.judge(2, 3, 2, 29, 2), -20);
        lay(x, 3, 2, 26, -1, 27);
        Bounds.due("26 is one", x.judge(2, 3, 2, 0, 1), 2);
        Bounds.due("-1 is none", x.judge(2, 3, 2, 0, 3), -21);
        Bounds.due("27 is none", x.judge(2, 3, 2, 2, 1), -20);
        lay(x, 3, 2, Bounds.FAR);
        for (int i = 0; i < 4; i++) {
            Bounds.due("far away", x.judge(2, 3, 2, i, 1), -20);
        }
        int cubes = 1;
        for (int wires = 1; wires <= 6; wires++) {
            cubes *= 3;
            Bounds.tell(x, Texts.SIX_WIRES.replace("in", "out").substring(0, 6 * wires));
            lay(x, 3, 2, cubes - 1, cubes);
            Bounds.due("the greatest of " + wires + " WIRES", x.judge(0, 3, 2, 0, 1), 2);
            Bounds.due("one more than that", x.judge(0, 3, 2, 1, 1), -20);
        }
    }

    private static void cost() {
        Bounds.of(18, "LETTERS of MAKES of all out and inner WIRES, summed.");
        Bounds.due("no WIRE", new WaitingWires().cost(), 0);
        Bounds.due("in WIRES alone", Checks.told(Texts.LATCH.replace("out", "in")).cost(), 0);
        Bounds.due("one out WIRE", Checks.told(Texts.MEET).cost(), 6);
        Bounds.due("one inner WIRE", Checks.told(Texts.MEET.replace("out", "inner")).cost(), 6);
        Bounds.due("two", Checks.told(Texts.LATCH.replace("in", "inner")).cost(), 2);
        Bounds.due("always 0", Checks.told("out a;inner b;").cost(), 0);
        Bounds.of(18, "STATE: not RIGHT, a QUARREL.");
        Bounds.due("not RIGHT", Checks.told(Texts.NOT_RIGHT).cost(), STATE);
        Bounds.due("not RIGHT, nothing is made", Checks.told(Texts.NOT_RIGHT.replace("out", "in")).cost(), STATE);
        Bounds.due("UNSAFE", Checks.told(Texts.UNSAFE).cost(), STATE);
        Bounds.due("a QUARREL", Checks.told(Texts.QUARREL).cost(), STATE);
        Bounds.due("unlike AIMS of an in WIRE are none", Checks.told(Texts.QUARREL.replace("out c", "in c")).cost(), 1);
    }
}

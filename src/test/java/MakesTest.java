/** Promises 15 to 18: aims, the least sum of cubes, cubes that are judged, the cost. */
public final class MakesTest {
    private static final int BAD = WaitingWires.BAD, STATE = WaitingWires.STATE, NONE = WaitingWires.NONE;
    private static final String MEET = Texts.MEET;
    private static final String QUARREL = Texts.QUARREL;
    private static final String NOT_RIGHT = "out a;place a+>a+ 1;";

    public static void main(String[] args) {
        aim();
        makes();
        ends();
        ties();
        judge();
        judgeWrong();
        cost();
        Checks.finish();
    }

    private static void aim() {
        WaitingWires x = Checks.told(MEET);
        int[] c = {0, 0, 0, 1, 0, 1, 1, 1};
        for (int levels = 0; levels < 8; levels++) {
            Checks.due("aim(2, " + levels + ")", x.aim(2, levels), c[levels]);
        }
        Checks.due("an in wire's aim(0, 0)", x.aim(0, 0), 1);
        Checks.due("an in wire's aim(0, 7)", x.aim(0, 7), 0);
        int[] wrong = {-1, 8, Integer.MIN_VALUE, Integer.MAX_VALUE};
        for (int i : wrong) {
            Checks.due("aim(0, " + i + ")", x.aim(0, i), BAD);
            Checks.due("aim(" + i + ", 0)", x.aim(i, 0), BAD);
        }
        Checks.due("aim(3, 0)", x.aim(3, 0), BAD);
        Checks.tell(x, QUARREL);
        Checks.due("unlike", x.aim(2, 0), -5);
        Checks.due("of another wire", x.aim(1, 0), 0);
        Checks.due("an in wire that is unlike", x.aim(0, 0), -5);
        Checks.due("no state has these", x.aim(2, 7), NONE);
        Checks.tell(x, NOT_RIGHT);
        Checks.due("not right", x.aim(0, 0), STATE);
        Checks.due("not right and bad", x.aim(0, 2), BAD);
        // all six wires at once, the highest levels among them
        Checks.tell(x, "in a;in b;in c;in d;in e;out f;place>a-1;place>b-1;place>c-1;place>d-1;place>e-1;place>f-1;");
        Checks.due("states()", x.states(), 64);
        Checks.due("aim(5, 63)", x.aim(5, 63), 0);
        Checks.due("aim(5, 64)", x.aim(5, 64), BAD);
    }

    private static void sum(WaitingWires x, int w, int letters, int... cubes) {
        Checks.due("makes(" + w + ", 0)", x.makes(w, 0), cubes.length);
        Checks.due("makes(" + w + ", 1)", x.makes(w, 1), letters);
        for (int i = 0; i < cubes.length; i++) {
            Checks.due("makes(" + w + ", 10 and " + i + ")", x.makes(w, 10 + i), cubes[i]);
        }
        Checks.due("makes(" + w + ", behind)", x.makes(w, 10 + cubes.length), NONE);
        Checks.due("makes(" + w + ", far behind)", x.makes(w, Integer.MAX_VALUE), NONE);
    }

    private static void makes() {
        WaitingWires x = Checks.told(MEET);
        // ab, ac, bc: levels 3, then 5, then 6
        sum(x, 2, 6, 22, 16, 14);
        int[] wrong = {-1, 2, 3, 9, Integer.MIN_VALUE};
        for (int i : wrong) {
            Checks.due("makes(2, " + i + ")", x.makes(2, i), BAD);
        }
        Checks.due("an in wire", x.makes(0, 0), BAD);
        Checks.due("no wire", x.makes(3, 0), BAD);
        Checks.due("no wire", x.makes(-1, 10), BAD);
        Checks.tell(x, QUARREL);
        Checks.due("its aims quarrel", x.makes(2, 0), STATE);
        Checks.due("its aims quarrel, cube", x.makes(2, 10), STATE);
        Checks.due("its aims quarrel, bad", x.makes(2, 5), BAD);
        // b: levels 1 has aim 1, levels 0, 2, 4 have not; 3 is 0 (b falls behind a), all else is free
        Checks.due("another wire", x.makes(1, 0), 1);
        Checks.tell(x, NOT_RIGHT);
        Checks.due("not right", x.makes(0, 0), STATE);
        Checks.due("not right and bad", x.makes(1, 0), BAD);
    }

    /** Wires that are always 0, that become 1 for good, that go by themselves. */
    private static void ends() {
        WaitingWires x = Checks.told("out a;");
        sum(x, 0, 0);
        Checks.due("cost of nothing", x.cost(), 0);
        Checks.tell(x, "out a;place>a+ 1;");
        sum(x, 0, 0, 2);
        Checks.tell(x, "out a;place a->a+ 1;place a+>a- 0;");
        sum(x, 0, 1, 0);
        Checks.tell(x, "inner a;place>a- 1;");
        sum(x, 0, 0);
        // all 64 levels; f falls once all others fell, and stays
        Checks.tell(x, "in a;in b;in c;in d;in e;out f;place>a-1;place>b-1;place>c-1;place>d-1;place>e-1;place a->f-0;"
            + "place b->f-0;place c->f-0;place d->f-0;place e->f-0;");
        Checks.due("states()", x.states(), 33);
        // 1 as long as one of the others is
        sum(x, 5, 5, 728 - 1, 728 - 3, 728 - 9, 728 - 27, 728 - 81);
    }

    /** Of several sums: for the least levels the least cube with which the fewest can be had. */
    private static void ties() {
        // d rises straight behind a+ and falls straight behind a-
        WaitingWires x = Checks.told("in a;in b;in c;out d;place c->a+ 1;place a+>d+ 0;place d+>b+ 0;place b+>c+ 0;place c+>a- 0;"
            + "place a->d- 0;place d->b- 0;place b->c- 0;");
        Checks.due("states()", x.states(), 8);
        // d is 1 just where a is: one letter
        sum(x, 3, 1, 79);
        // a ring: each wire is as the one ahead of it
        Checks.tell(x, "in a;out b;out c;place c->a+ 1;place a+>b+ 0;place b+>c+ 0;place c+>a- 0;place a->b- 0;place b->c- 0;");
        sum(x, 1, 1, 25);
        sum(x, 2, 1, 23);
        // 16 with 5 or with 22: for the least levels, 2, the least that can do is 5
        Checks.tell(x, "out a;out b;out c;place a+>c+ 0;place c+>b+ 0;place b+>c- 0;place c->c+/1 0;place c+/1>a- 0;"
            + "place a->b- 0;place b->c-/1 0;place c-/1>a+ 1;");
        sum(x, 1, 4, 5, 16);
        // 62 with 47 or with 73: the least levels are had by 62 alone
        Checks.tell(x, "in a;inner b;out c;out d;place d+>c+ 0;place a+>c+ 0;place c+>b+ 0;place b+>d- 0;place d->a- 1;"
            + "place a->b- 0;place b->c- 0;place c->d+ 0;place c->a+ 0;");
        sum(x, 3, 3, 62, 47);
    }

    private static void judge() {
        WaitingWires x = Checks.told(MEET);
        Checks.due("sheet", x.sheet(0, 1, 6), 1);
        int[] cells = {22, 16, 14, 26, 13, 27};
        for (int i = 0; i < 6; i++) {
            x.lay(0, i, cells[i]);
        }
        Checks.due("the sum itself", x.judge(2, 0, 1, 0, 3), 1);
        Checks.due("one is missing", x.judge(2, 0, 1, 0, 2), 0);
        Checks.due("one is missing", x.judge(2, 0, 1, 1, 2), 0);
        Checks.due("none at all", x.judge(2, 0, 1, 0, 0), 0);
        Checks.due("one too wide", x.judge(2, 0, 1, 0, 4), 2);
        Checks.due("one too wide first, though one is missing", x.judge(2, 0, 1, 2, 2), 2);
        Checks.due("one more than need be", x.lay(0, 3, 13), 1);
        Checks.due("one more than need be", x.judge(2, 0, 1, 0, 5), 1);
        Checks.due("no cube behind", x.judge(2, 0, 1, 0, 6), -25);
        Checks.due("no cube, at its own place", x.judge(2, 0, 1, 5, 1), -20);
        Checks.due("below 0", x.lay(0, 0, -1), 1);
        Checks.due("below 0", x.judge(2, 0, 1, 0, 6), -20);
        Checks.tell(x, "out a;");
        Checks.due("nothing makes what is always 0", x.judge(0, 0, 1, 3, 0), 1);
        Checks.tell(x, "out a;out b;out c;out d;out e;out f;place>f+1;");
        x.sheet(1, 1, 2);
        x.lay(1, 0, 728);
        Checks.due("the greatest cube", x.judge(5, 1, 1, 0, 1), 1);
        Checks.due("the greatest cube", x.judge(4, 1, 1, 0, 1), 2);
        x.lay(1, 0, 729);
        Checks.due("behind the greatest cube", x.judge(5, 1, 1, 0, 1), -20);
    }

    private static void judgeWrong() {
        WaitingWires x = Checks.told(MEET);
        x.sheet(0, 0, 30);
        Checks.due("w in", x.judge(0, 0, 0, 0, 1), BAD);
        Checks.due("w", x.judge(3, 0, 0, 0, 1), BAD);
        Checks.due("k", x.judge(2, 4, 0, 0, 1), BAD);
        Checks.due("k", x.judge(2, -1, 0, 0, 1), BAD);
        Checks.due("lane", x.judge(2, 0, 3, 0, 1), BAD);
        Checks.due("lane", x.judge(2, 1, -1, 0, 1), BAD);
        Checks.due("n", x.judge(2, 0, 0, 0, 31), BAD);
        Checks.due("n", x.judge(2, 0, 0, 0, -1), BAD);
        Checks.due("n 30", x.judge(2, 0, 0, 0, 30), 2);
        Checks.due("NULL", x.judge(2, 1, 0, 0, 1), -11);
        Checks.due("NULL of n 0", x.judge(2, 1, 2, 0, 0), -11);
        Checks.due("CAST", x.judge(2, 0, 1, 0, 1), -13);
        Checks.due("CAST of n 0", x.judge(2, 0, 2, 0, 0), -13);
        Checks.due("CAST ahead of INDEX", x.judge(2, 0, 2, 99, 1), -13);
        int[] wrong = {-1, 30, Integer.MIN_VALUE, Integer.MAX_VALUE};
        for (int f : wrong) {
            Checks.due("INDEX " + f, x.judge(2, 0, 0, f, 2), -12);
            Checks.due("no INDEX of n 0 " + f, x.judge(2, 0, 0, f, 0), 0);
        }
        Checks.due("INDEX of the second", x.judge(2, 0, 0, 29, 2), -12);
        x.lay(0, 29, 27);
        Checks.due("no cube ahead of INDEX", x.judge(2, 0, 0, 29, 2), -20);
        Checks.tell(x, QUARREL);
        Checks.due("its aims quarrel", x.judge(2, 1, 0, 0, 1), STATE);
        Checks.due("its aims quarrel and bad", x.judge(2, 4, 0, 0, 1), BAD);
        Checks.due("another wire", x.judge(1, 1, 0, 0, 1), -11);
        Checks.tell(x, NOT_RIGHT);
        Checks.due("not right", x.judge(0, 1, 0, 0, 1), STATE);
    }

    private static void cost() {
        WaitingWires x = Checks.told(MEET);
        Checks.due("cost()", x.cost(), 6);
        Checks.tell(x, QUARREL);
        Checks.due("a quarrel", x.cost(), STATE);
        Checks.tell(x, QUARREL.replace("out", "in"));
        Checks.due("no wire is made", x.cost(), 0);
        Checks.tell(x, NOT_RIGHT);
        Checks.due("not right", x.cost(), STATE);
        Checks.tell(x, NOT_RIGHT.replace("out", "in"));
        Checks.due("not right, no wire is made", x.cost(), STATE);
    }
}

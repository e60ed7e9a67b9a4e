/** Promises 9 to 14, sentence by sentence: states, levels, quarrels, what is taken back, what is stuck. */
final class StatesBounds {
    private static final int BAD = Bounds.BAD, STATE = Bounds.STATE, NONE = Bounds.NONE, SPENT = Bounds.SPENT;
    /** c+ and a+ side by side, b+ behind c+: events 0, 1, 2. */
    private static final String SIDE_BY_SIDE = "in a;in b;in c;place>c+ 1;place>a+ 1;place c+>b+ 0;";
    private static final int[] NO_WHAT = {-1, 4, 5};

    private StatesBounds() { }

    static void all() {
        howMany();
        unsafe();
        spent();
        right();
        wrongNets();
        markings();
        behind();
        levels();
        ofRefused();
        rightNetsAlone();
        quarrels();
        firstQuarrel();
        quarrelsRefused();
        takenBack();
        firstTakenBack();
        stuck();
    }

    private static void rows(String call, WaitingWires x, int what, int... due) {
        for (int s = 0; s < due.length; s++) {
            Bounds.due(call + ": of(" + s + ", " + what + ")", x.of(s, what), due[s]);
        }
    }

    private static void howMany() {
        Bounds.of(9, "How many STATES.");
        WaitingWires x = new WaitingWires();
        Bounds.due("of nothing", x.states(), 1);
        Bounds.tell(x, "in a;place>a+ 0;");
        Bounds.due("nothing is READY", x.states(), 1);
        Bounds.tell(x, "in a;place>a+ 1;");
        Bounds.due("one EVENT comes", x.states(), 2);
        Bounds.tell(x, Texts.TWO_HUNDRED);
        Bounds.due("as many as may be", x.states(), 200);
        Bounds.due("the last has nothing", x.of(199, 0), 0);
    }

    private static void unsafe() {
        Bounds.of(9, "STATE: it is UNSAFE");
        WaitingWires x = Checks.told(Texts.UNSAFE);
        Bounds.due("at once", x.states(), STATE);
        Bounds.tell(x, "in a;in b;place>a+ 1;place a+>b+ 0;place b+>a-/1 1;place a-/1>b- 0;place>a-/1 0;");
        Bounds.due("in the end", x.states(), STATE);
        Bounds.tell(x, "in a;in b;place>a+ 1;place a+>b+ 0;place a+>b+ 1;");
        Bounds.due("one of two that it feeds", x.states(), STATE);
        Bounds.terms(9, "UNSAFE: if one has one already then.");
        Bounds.tell(x, "in a;place a+>a+ 1;");
        Bounds.due("what it takes has none then", x.states(), 1);
        Bounds.tell(x, "in a;in b;place>a+ 1;place a+>a+ 1;place a+>b+ 1;");
        Bounds.due("but what it does not take has", x.states(), STATE);
        Bounds.tell(x, "in a;in b;place>a+ 0;place a+>b+ 1;");
        Bounds.due("an EVENT that never comes harms nothing", x.states(), 2);
    }

    private static void spent() {
        Bounds.of(9, "SPENT: a 201st.");
        WaitingWires x = Checks.told(Texts.ONE_STATE_MORE);
        Bounds.due("201", x.states(), SPENT);
        Bounds.tell(x, "in a;in b;in c;in d;place>a+1;place>a-1;place>b+1;place>b-1;place>c+1;place>c-1;place>d+1;place>d-1;");
        Bounds.due("256", x.states(), SPENT);
        Bounds.tell(x, Texts.TWO_HUNDRED);
        Bounds.due("200", x.states(), 200);
        Bounds.terms(9, "If one is met that is UNSAFE, or a 201st STATE, the net has none.");
        String many = "in a;in b;in c;in d;in e;in f;place>a+1;place>a-1;place>b+1;place>b-1;place>c+1;place>c-1;place>d+1;"
            + "place>d-1;place>e+1;place>e-1;place>f+1;place f+>f-0;place f->f+/1 0;";
        Bounds.tell(x, many + "place f+/1>f-/1 0;place f-/1>a+/1 1;");
        Bounds.due("the 201st is met first", x.states(), SPENT);
        Bounds.tell(x, many + "place f+>f+/2 1;");
        Bounds.due("the UNSAFE one is met first", x.states(), STATE);
        String[] none = {Texts.ONE_STATE_MORE, Texts.UNSAFE};
        for (String text : none) {
            Bounds.tell(x, text);
            Bounds.due("of(0, 0)", x.of(0, 0), BAD);
            Bounds.due("of(0, 1)", x.of(0, 1), BAD);
            Bounds.due("of(0, 10)", x.of(0, 10), BAD);
            Bounds.due("stuck(0)", x.stuck(0), STATE);
            Bounds.due("right()", x.right(), 0);
        }
        // the run needs no STATES
        Bounds.tell(x, Texts.UNSAFE);
        Bounds.due("run(0)", x.run(0), 3);
        Bounds.due("come(1)", x.come(1), 1);
    }

    private static void right() {
        Bounds.of(10, "Whether the net is RIGHT (1, 0).");
        WaitingWires x = new WaitingWires();
        Bounds.due("nothing", x.right(), 1);
        Bounds.tell(x, Texts.LATCH);
        Bounds.due("a ring", x.right(), 1);
        Bounds.tell(x, Texts.NOT_RIGHT);
        Bounds.due("a loop", x.right(), 0);
        Bounds.tell(x, Texts.TWO_HUNDRED);
        Bounds.due("a rise and a fall of e at once", x.right(), 0);
        Bounds.tell(x, Texts.TWO_HUNDRED.replace(">e-1", ">e-0"));
        Bounds.due("a fall of e that never comes", x.right(), 1);
        Bounds.tell(x, Texts.RIGHT_TWO_HUNDRED);
        Bounds.due("200 STATES", x.right(), 1);
        Bounds.due("LEVELS of the last", x.of(199, 2), 32);
        Bounds.due("nothing is EXCITED in the last", x.of(199, 3), 0);
    }

    private static void wrongNets() {
        Bounds.terms(10, "A net is RIGHT, if LEVELS can be told for all STATES so that each EVENT that is READY changes its "
            + "WIRE's (a WIRE without any that comes is 0); and it has STATES.");
        String[] wrong = {"in a;place a+>a+ 1;", "in a;place>a+ 1;place>a- 1;", "in a;place>a+ 1;place a+>a+/1 0;",
            "in a;place>a- 1;place a->a-/1 0;", "in a;in b;place>a+ b+ 1;", "in a;in b;place>a+ b+ 1;place a+ b+>b- 0;",
            "in a;place a+>a+/1 0;place a+/1>a- 0;place a->a+ 1;", Texts.UNSAFE, Texts.ONE_STATE_MORE,
            "in a;in b;place>b+1;place b+>a+0;place>a+/1 1;"};
        for (String text : wrong) {
            Bounds.due(text, Checks.told(text).right(), 0);
        }
        String[] fine = {"in a;", "in a;place>a+ 1;", "in a;place>a- 1;", "in a;place>a+ a+/1 1;", "in a;in b;place>a+ 1;place>b- 1;",
            "in a;place>a- 1;place a->a+ 0;", "in a;place>a+ 0;place a+>a- 0;place a->a-/1 0;", "in a;in b;place>a+1;place>a+/1 0;"};
        for (String text : fine) {
            Bounds.due(text, Checks.told(text).right(), 1);
        }
        // b- never comes, so b is 0, not 1 ahead of a fall
        WaitingWires x = Checks.told("in a;in b;place>a- 1;place>b- 0;");
        rows("a falls, b never", x, 2, 1, 0);
    }

    private static void markings() {
        Bounds.of(11, "Of a STATE: 0 its MARKING (bits), 1 EVENTS that are READY (bits)");
        WaitingWires x = Checks.told(SIDE_BY_SIDE);
        rows("MARKING", x, 0, 3, 6, 1, 4, 2, 0);
        rows("READY", x, 1, 3, 6, 1, 4, 2, 0);
        Bounds.terms(11, "A MARKING: the PLACES that have a TOKEN (bits).");
        Bounds.tell(x, Texts.twentyPlaces(1));
        rows("twenty TOKENS", x, 0, (1 << 20) - 1, 0);
        Bounds.terms(11, "An EVENT is READY, if each PLACE from which it takes has one, and it takes from one at least;");
        Bounds.tell(x, "in a;in b;place>a+ 1;place>a+ 0;place b+>a+/1 0;place a->b- 1;");
        Bounds.due("one of two is missing, or it takes from none", x.of(0, 1), 16);
        Bounds.tell(x, "in a;place>a+ 1;place>a+ 1;");
        Bounds.due("both are there", x.of(0, 1), 1);
        Bounds.terms(11, "STATES (200) are the MARKINGS that can come, numbered as they are met: from each in turn EVENTS by "
            + "numbers, as far as they are READY.");
        Bounds.tell(x, SIDE_BY_SIDE);
        Bounds.due("six", x.states(), 6);
        rows("behind EVENT 0", x, 10, 1, NONE, 3, NONE, NONE, NONE);
        rows("behind EVENT 1", x, 11, 2, 3, NONE, NONE, 5, NONE);
        rows("behind EVENT 2", x, 12, NONE, 4, NONE, 5, NONE, NONE);
    }

    private static void behind() {
        Bounds.of(11, "10 and e: the STATE behind EVENT e (NONE: not READY)");
        WaitingWires x = Checks.told(Texts.events(16));
        Bounds.due("EVENT 0", x.of(0, 10), 1);
        for (int e = 1; e < 16; e++) {
            Bounds.due("EVENT " + e, x.of(0, 10 + e), NONE);
        }
        Bounds.due("the 17th", x.of(0, 26), BAD);
        Bounds.tell(x, "in a;place a+>a+ 1;");
        Bounds.due("itself", x.of(0, 10), 0);
    }

    private static void levels() {
        Bounds.of(11, "of a RIGHT net 2 LEVELS, 3 EXCITED WIRES (bits), 4 AIMS (bits of all WIRES).");
        WaitingWires x = Checks.told(SIDE_BY_SIDE);
        rows("LEVELS", x, 2, 0, 4, 1, 5, 6, 7);
        rows("EXCITED", x, 3, 5, 3, 4, 2, 1, 0);
        rows("AIMS", x, 4, 5, 7, 5, 7, 7, 7);
        Bounds.terms(11, "LEVELS: bit w for WIRE w: 0 ahead of a rise that comes and behind a fall, 1 else.");
        Bounds.tell(x, "in a;in b;in c;in d;in e;in f;place>f- 1;place f->a- 0;place a->f+ 0;");
        rows("f-, a-, f+", x, 2, 33, 1, 0, 32);
        Bounds.tell(x, Texts.SIX_WIRES + "place>a-1;place>b-1;place>c-1;place>d-1;place>e-1;place>f-1;");
        Bounds.due("all six are 1", x.of(0, 2), 63);
        Bounds.due("all six are 0", x.of(63, 2), 0);
        Bounds.terms(11, "EXCITED in a STATE: WIRES with an EVENT that is READY.");
        Bounds.due("all six", x.of(0, 3), 63);
        Bounds.due("none", x.of(63, 3), 0);
        Bounds.tell(x, "in a;in b;place>b+ b+/1 1;");
        Bounds.due("two EVENTS of one WIRE", x.of(0, 3), 2);
        Bounds.terms(11, "AIM of a WIRE in a STATE: its level, or the other one, if it is EXCITED.");
        Bounds.tell(x, "in a;out b;inner c;place>c- 1;place>b+ 1;place>a- 0;");
        rows("c-, b+", x, 4, 2, 2, 2, 2);
        Bounds.tell(x, Texts.LATCH);
        rows("a ring", x, 4, 1, 3, 2, 0);
    }

    private static void ofRefused() {
        Bounds.of(11, "BAD: also it has none;");
        WaitingWires x = Checks.told(Texts.LATCH);
        int[] noWhat = {-1, 5, 6, 7, 8, 9, 14, 15, 25, 26, 27};
        Bounds.dueForAll("what", noWhat, i -> x.of(0, i), BAD);
        Bounds.dueForAll("what", Bounds.FAR, i -> x.of(0, i), BAD);
        int[] noState = {-1, 4, 199, 200};
        int[] whats = {0, 1, 2, 3, 4, 10, 13};
        for (int what : whats) {
            Bounds.dueForAll("STATE", noState, i -> x.of(i, what), BAD);
            Bounds.dueForAll("STATE", Bounds.FAR, i -> x.of(i, what), BAD);
        }
        String[] none = {Texts.UNSAFE, Texts.ONE_STATE_MORE};
        for (String text : none) {
            WaitingWires y = Checks.told(text);
            for (int what : whats) {
                Bounds.due("it has none: of(0, " + what + ")", y.of(0, what), BAD);
            }
        }
        Bounds.of(11, "STATE (2 to 4): not RIGHT.");
        WaitingWires y = Checks.told(Texts.NOT_RIGHT);
        int[] due = {1, 3, STATE, STATE, STATE, BAD};
        for (int what = 0; what < 6; what++) {
            Bounds.due("of(0, " + what + ")", y.of(0, what), due[what]);
            Bounds.due("BAD first: of(2, " + what + ")", y.of(2, what), BAD);
        }
        Bounds.due("of(0, 10)", y.of(0, 10), 0);
        Bounds.due("of(0, 11)", y.of(0, 11), 1);
        Bounds.due("of(0, 12)", y.of(0, 12), BAD);
    }

    private static void rightNetsAlone() {
        Bounds.terms(12, "2 (What follows is for RIGHT nets.)");
        String[] wrong = {Texts.NOT_RIGHT, Texts.UNSAFE, Texts.ONE_STATE_MORE.replace("in f", "out f")};
        for (String text : wrong) {
            WaitingWires x = Checks.told(text);
            int made = x.count(0) - 1;
            x.sheet(0, 0, 1);
            Bounds.due("quarrels(0)", x.quarrels(0), STATE);
            Bounds.due("back(0)", x.back(0), STATE);
            Bounds.due("aim(0, 0)", x.aim(0, 0), STATE);
            Bounds.due("makes", x.makes(made, 0), STATE);
            Bounds.due("judge", x.judge(made, 0, 0, 0, 1), STATE);
            Bounds.due("cost()", x.cost(), STATE);
            Bounds.due("would(0, 1)", x.would(0, 1), STATE);
            Bounds.due("cure(0, 1)", x.cure(0, 1), STATE);
            Bounds.due("cures(0)", x.cures(0), STATE);
        }
        // these ask for what they tell alone
        WaitingWires x = Checks.told("in a;place a+>a+ 1;");
        Bounds.due("beat(0)", x.beat(0), 1);
        Bounds.due("time(0, 3)", x.time(0, 3), 3);
        Bounds.due("come(0)", x.come(0), 1);
    }

    private static void clashes(String call, WaitingWires x, boolean quarrels, int... due) {
        for (int what = 0; what < 4; what++) {
            Bounds.due(call + ": " + (quarrels ? "quarrels(" : "back(") + what + ")",
                quarrels ? x.quarrels(what) : x.back(what), due[what]);
        }
    }

    private static void quarrels() {
        Bounds.of(12, "How many pairs of STATES are ALIKE (what 0), QUARRELS (1), the first QUARREL: the less STATE of it "
            + "(2; NONE), the greater one (3; NONE).");
        WaitingWires x = Checks.told(Texts.LATCH);
        clashes("none", x, true, 0, 0, NONE, NONE);
        Bounds.tell(x, Texts.QUARREL);
        clashes("one", x, true, 1, 1, 0, 4);
        // LEVELS by how many STATES have them: 4 by 8, 24 by 4, 36 by 2
        WaitingWires y = Checks.told(Texts.RIGHT_TWO_HUNDRED.replace("in f", "out f"));
        Bounds.due("pairs of 200 STATES", y.quarrels(0), 4 * 28 + 24 * 6 + 36);
        // f falls behind the first rise of it, not behind the second: each of the LEVELS of a to d by as many pairs
        // as it has STATES, squared
        Bounds.due("QUARRELS of 200 STATES", y.quarrels(1), 49);
        Bounds.due("none is TAKEN BACK in 200 STATES", y.back(0), 0);
        Bounds.terms(12, "ALIKE: two STATES with the same LEVELS.");
        // levels 0, 1, 0, 1, 0, 2: three pairs and one pair
        String round = "in a;inner b;place b->a+ 1;place a+>a- 0;place a->a+/1 0;place a+/1>a-/1 0;place a-/1>b+ 0;place b+>b- 0;";
        Bounds.tell(x, round);
        clashes("three and one", x, true, 4, 2, 0, 4);
        Bounds.terms(12, "A QUARREL: two that are ALIKE in which the AIMS of some out or inner WIRE are unlike.");
        Bounds.tell(x, round.replace("inner b", "out b"));
        clashes("out", x, true, 4, 2, 0, 4);
        Bounds.tell(x, round.replace("inner b", "in b"));
        clashes("in WIRES alone", x, true, 4, 0, NONE, NONE);
        Bounds.tell(x, round.replace("in a", "out a"));
        clashes("a, too", x, true, 4, 2, 0, 4);
        // a goes on as it did: alike and of one mind
        Bounds.tell(x, "out a;place a-/1>a+ 1;place a+>a- 0;place a->a+/1 0;place a+/1>a-/1 0;");
        clashes("of one mind", x, true, 2, 0, NONE, NONE);
    }

    private static void firstQuarrel() {
        Bounds.of(12, "(The first: by the less, then the greater one.)");
        // 1 and 3 are met ahead of 0 and 4
        WaitingWires x = Checks.told("out a;out b;out c;place c->a+ 1;place a+>b+ 0;place b+>b- 0;place b->a- 0;place a->c+ 0;place c+>c- 0;");
        clashes("by the less", x, true, 2, 2, 0, 4);
        Bounds.tell(x, "out a;out b;out c;place c->a+ 1;place a+>a- 0;place a->b+ 0;place b+>b- 0;place b->c+ 0;place c+>c- 0;");
        clashes("then the greater one", x, true, 3, 3, 0, 2);
        Bounds.tell(x, "in a;out b;out c;place c->a+ 1;place a+>a- 0;place a->b+ 0;place b+>b- 0;place b->a+/1 0;place a+/1>a-/1 0;"
            + "place a-/1>c+ 0;place c+>c- 0;");
        // levels 0, 1, 0, 2, 0, 1, 0, 4: of the six pairs of 0 none but (0, 4) is of one mind
        clashes("0 and 4 are of one mind", x, true, 7, 5, 0, 2);
    }

    private static void quarrelsRefused() {
        Bounds.of(12, "BAD; STATE: not RIGHT.");
        WaitingWires x = Checks.told(Texts.QUARREL);
        WaitingWires y = Checks.told(Texts.NOT_RIGHT);
        Bounds.dueForAll("what", NO_WHAT, x::quarrels, BAD);
        Bounds.dueForAll("what", Bounds.FAR, x::quarrels, BAD);
        Bounds.dueForAll("BAD first", NO_WHAT, y::quarrels, BAD);
        clashes("not RIGHT", y, true, STATE, STATE, STATE, STATE);
    }

    private static void takenBack() {
        Bounds.of(13, "How many TAKEN BACK (what 0)");
        WaitingWires x = Checks.told(Texts.LATCH);
        Bounds.due("none", x.back(0), 0);
        Bounds.tell(x, Texts.FORK);
        Bounds.due("one", x.back(0), 1);
        Bounds.terms(13, "TAKEN BACK: a STATE, an EVENT of an out or inner WIRE that is READY, and another EVENT of another WIRE "
            + "that is READY, behind which the first one's WIRE is not EXCITED.");
        Bounds.tell(x, Texts.FORK.replace("out b", "inner b"));
        clashes("inner", x, false, 1, 0, 2, 1);
        Bounds.tell(x, Texts.FORK.replace("in a", "out a"));
        clashes("both are out", x, false, 2, 0, 1, 2);
        Bounds.tell(x, Texts.FORK.replace("out b", "in b"));
        clashes("both are in", x, false, 0, NONE, NONE, NONE);
        Bounds.tell(x, "out b;place>b+ b+/1 1;");
        clashes("of the same WIRE", x, false, 0, NONE, NONE, NONE);
        Bounds.tell(x, "in a;out b;place>a+ b+ 1;place a+>b+/1 0;place a+>a- 0;");
        clashes("EXCITED by another EVENT", x, false, 0, NONE, NONE, NONE);
        Bounds.tell(x, "in a;out b;place>b+ 1;place>a+ 1;");
        clashes("side by side", x, false, 0, NONE, NONE, NONE);
        // two EVENTS of b are READY, both are taken back by a+
        Bounds.tell(x, "in a;out b;in c;place>a+ b+ b+/1 1;place a+>c+ 0;place b+ b+/1>c- 0;place>c- 0;");
        clashes("two EVENTS of one WIRE", x, false, 2, 0, 1, 0);
    }

    private static void firstTakenBack() {
        Bounds.of(13, "STATE (1; NONE), EVENT (2; NONE), the other EVENT (3; NONE) of the first.");
        WaitingWires x = Checks.told(Texts.LATCH);
        clashes("none", x, false, 0, NONE, NONE, NONE);
        Bounds.tell(x, "out a;out b;in d;place>d+ 1;place d+>a+ b+ 0;place a+>a- 0;place b+>b- 0;place>a- 0;place>b- 0;");
        clashes("of a later STATE", x, false, 2, 1, 1, 2);
        Bounds.tell(x, "out a;out b;out c;place>a+ b+ c+ 1;place a+>a- 0;place b+>b- 0;place c+>c- 0;place>a- b- c- 0;"
            + "place>a- 0;place>b- 0;place>c- 0;");
        clashes("six of one STATE", x, false, 6, 0, 0, 1);
        Bounds.tell(x, "in a;in b;out c;place>a+ b+ c+ 1;place a+>a- 0;place b+>b- 0;place c+>c- 0;place>a- 0;place>b- 0;place>c- 0;");
        clashes("by two others", x, false, 2, 0, 2, 0);
        Bounds.tell(x, "in a;out b;place a->a+ 1;place a+>a- b+ 0;place b+>b- 0;");
        clashes("by one that leads to the first STATE", x, false, 1, 1, 2, 0);
        Bounds.of(13, "BAD; STATE.");
        WaitingWires y = Checks.told(Texts.NOT_RIGHT);
        Bounds.dueForAll("what", NO_WHAT, x::back, BAD);
        Bounds.dueForAll("what", Bounds.FAR, x::back, BAD);
        Bounds.dueForAll("BAD first", NO_WHAT, y::back, BAD);
        clashes("not RIGHT", y, false, STATE, STATE, STATE, STATE);
    }

    private static void isStuck(String text, int ends, int astray, int never) {
        WaitingWires x = Checks.told(text);
        Bounds.due("'" + text + "': stuck(0)", x.stuck(0), ends);
        Bounds.due("'" + text + "': stuck(1)", x.stuck(1), astray);
        Bounds.due("'" + text + "': stuck(2)", x.stuck(2), never);
    }

    private static void stuck() {
        Bounds.of(14, "How many STATES from which nothing is READY (what 0), from which the first STATE can not come again (1), "
            + "EVENTS that never come (2).");
        isStuck("", 1, 0, 0);
        isStuck("in a;place>a+ 0;", 1, 0, 1);
        isStuck("in a;place>a+ 1;", 1, 1, 0);
        isStuck(Texts.LATCH, 0, 0, 0);
        // the same, but EVENT 0 leads to the first STATE
        isStuck("in a;out b;place b->a+ 1;place a+>b+ 0;place b+>a- 0;place a->b- 0;", 0, 0, 0);
        isStuck("in a;in b;place>a+ b+ 1;place a+>b- 0;place>b- 0;", 2, 2, 1);
        // a way in, then a ring without the first STATE
        isStuck("in a;place>a+ 1;place a+ a+/1>a- 0;place a->a+/1 0;", 0, 2, 0);
        isStuck(Texts.events(16), 1, 1, 15);
        isStuck(Texts.TWO_HUNDRED, 1, 199, 0);
        isStuck(Texts.RIGHT_TWO_HUNDRED, 1, 199, 0);
        isStuck("in a;place a+>a+ 1;", 0, 0, 0);
        Bounds.of(14, "BAD; STATE: the net has no STATES.");
        int[] noWhat = {-1, 3, 4};
        String[] none = {Texts.UNSAFE, Texts.ONE_STATE_MORE};
        for (String text : none) {
            WaitingWires x = Checks.told(text);
            for (int what = 0; what < 3; what++) {
                Bounds.due("stuck(" + what + ")", x.stuck(what), STATE);
            }
            Bounds.dueForAll("BAD first", noWhat, x::stuck, BAD);
        }
        WaitingWires x = Checks.told(Texts.LATCH);
        Bounds.dueForAll("what", noWhat, x::stuck, BAD);
        Bounds.dueForAll("what", Bounds.FAR, x::stuck, BAD);
        Bounds.tell(x, Texts.NOT_RIGHT);
        Bounds.due("not RIGHT, but it has STATES", x.stuck(0), 1);
    }
}

/** Promises 1 to 8, sentence by sentence: a new object, the tape, what was told. (Texts: TextBounds.) */
final class NetBounds {
    private static final int BAD = Bounds.BAD, FULL = Bounds.FULL, NONE = Bounds.NONE;

    private NetBounds() { }

    static void all() {
        newNet();
        newSheets();
        answers();
        calls();
        feed();
        end();
        wire();
        event();
        place();
    }

    private static void newNet() {
        Bounds.of(1, "A net of nothing (one STATE)");
        WaitingWires x = new WaitingWires();
        for (int what = 0; what < 6; what++) {
            Bounds.due("count(" + what + ")", x.count(what), 0);
        }
        Bounds.due("fault()", x.fault(), 0);
        Bounds.due("wire(0, 0)", x.wire(0, 0), BAD);
        Bounds.due("event(0, 0)", x.event(0, 0), BAD);
        Bounds.due("place(0, 0)", x.place(0, 0), BAD);
        Bounds.due("states()", x.states(), 1);
        Bounds.due("right()", x.right(), 1);
        for (int what = 0; what < 5; what++) {
            Bounds.due("of(0, " + what + ")", x.of(0, what), 0);
            Bounds.due("of(1, " + what + ")", x.of(1, what), BAD);
        }
        int[] clashes = {0, NONE, NONE, NONE};
        for (int what = 0; what < 4; what++) {
            Bounds.due("quarrels(" + what + ")", x.quarrels(what), what == 1 ? 0 : clashes[what]);
            Bounds.due("back(" + what + ")", x.back(what), clashes[what]);
        }
        Bounds.due("stuck(0)", x.stuck(0), 1);
        Bounds.due("stuck(1)", x.stuck(1), 0);
        Bounds.due("stuck(2)", x.stuck(2), 0);
        Bounds.due("aim(0, 0)", x.aim(0, 0), BAD);
        Bounds.due("makes(0, 0)", x.makes(0, 0), BAD);
        Bounds.due("cost()", x.cost(), 0);
        Bounds.due("would(0, 1)", x.would(0, 1), BAD);
        Bounds.due("cure(0, 1)", x.cure(0, 1), BAD);
        Bounds.due("cures(0)", x.cures(0), NONE);
        Bounds.due("cures(1)", x.cures(1), 0);
        Bounds.due("delay(0, 1)", x.delay(0, 1), BAD);
        Bounds.due("beat(0)", x.beat(0), NONE);
        Bounds.due("time(0, 1)", x.time(0, 1), BAD);
        Bounds.due("come(0)", x.come(0), BAD);
        Bounds.due("undo()", x.undo(), NONE);
        int[] run = {0, 0, 0, NONE};
        for (int what = 0; what < 4; what++) {
            Bounds.due("run(" + what + ")", x.run(what), run[what]);
        }
    }

    private static void newSheets() {
        Bounds.of(1, "SHEETS have nothing");
        WaitingWires x = new WaitingWires();
        Bounds.due("count(6)", x.count(6), NONE);
        for (int k = 0; k < 4; k++) {
            Bounds.due("lay(" + k + ", 0, 0)", x.lay(k, 0, 0), -11);
            for (int lane = 0; lane < 3; lane++) {
                Bounds.due("row(" + k + ", " + lane + ", 0, 0)", x.row(k, lane, 0, 0), -11);
            }
        }
    }

    private static void answers() {
        Bounds.terms(1, "Answers: BAD -1 (a number is not as told, there is no such WIRE, EVENT, PLACE, STATE, SHEET), "
            + "STATE -2 (as told), FULL -3, NONE -4 (there is none), SPENT -6");
        Bounds.due("BAD", WaitingWires.BAD, -1);
        Bounds.due("STATE", WaitingWires.STATE, -2);
        Bounds.due("FULL", WaitingWires.FULL, -3);
        Bounds.due("NONE", WaitingWires.NONE, -4);
        Bounds.due("SPENT", WaitingWires.SPENT, -6);
        WaitingWires x = Checks.told(Texts.LATCH);
        x.sheet(0, 0, 1);
        Bounds.due("no number as told", x.count(7), -1);
        Bounds.due("no such WIRE", x.wire(2, 0), -1);
        Bounds.due("no such EVENT", x.event(4, 0), -1);
        Bounds.due("no such PLACE", x.place(4, 0), -1);
        Bounds.due("no such STATE", x.of(4, 0), -1);
        Bounds.due("no such SHEET", x.lay(4, 0, 0), -1);

        Bounds.terms(1, ", the first that fits");
        // BAD, then STATE, then FULL, though all of them fit
        Bounds.tell(x, "in c;in d;in e;in f;in g;" + Texts.NOT_RIGHT);
        Bounds.due("BAD of BAD, STATE, FULL", x.would(0, 0), -1);
        Bounds.due("STATE of STATE, FULL", x.would(0, 1), -2);
        Bounds.tell(x, "in c;in d;in e;in f;" + Texts.FORK.replace("in a;out b;out c", "in a;out b"));
        Bounds.due("FULL of FULL, NONE", x.cures(0), -3);
    }

    private static void calls() {
        Bounds.terms(1, "An object is used for at most 512 calls after it has been made; what later calls answer is free.");
        WaitingWires x = new WaitingWires();
        for (int call = 1; call < 511; call += 2) {
            Bounds.due("call " + call, x.feed(call), 8);
            Bounds.due("call " + (call + 1), x.end(0), 8);
        }
        Bounds.due("call 511", x.sheet(3, 2, 64), 1);
        Bounds.due("call 512", x.lay(3, 63, 1), 1);
    }

    private static void feed() {
        Bounds.of(2, "Eight bytes come behind THE TAPE, the highest first: how many it has.");
        WaitingWires x = new WaitingWires();
        Bounds.due("feed to none", x.feed(0x3B20202020202020L), 8);
        Bounds.due("the highest is the first", x.text(), -10);
        Bounds.due("feed to none again", x.feed(0x202020202020203BL), 8);
        Bounds.due("the lowest is the eighth", x.text(), -17);
        Bounds.due("a sign bit", x.feed(Long.MIN_VALUE), 8);
        Bounds.due("behind it", x.feed(-1L), 16);
        Bounds.due("128 is the first", x.text(), -10);
        Bounds.due("128 is no TOKEN", x.fault(), 1);
        x.feed(0x2020202020202020L);
        x.end(3);
        Bounds.due("behind 3 bytes", x.feed(0x3B20202020202020L), 11);
        Bounds.due("right behind them", x.text(), -13);

        Bounds.of(2, "FULL: more than 240.");
        Bounds.terms(2, "THE TAPE has 240 bytes, places from 0.");
        for (int i = 1; i <= 30; i++) {
            Bounds.due("feed " + i, x.feed(0x2020202020202020L), 8 * i);
        }
        Bounds.due("feed 31", x.feed(0), FULL);
        Bounds.due("it has 240", x.count(5), 240);
        x.end(233);
        Bounds.due("7 bytes are too few", x.feed(0), FULL);
        Bounds.due("it has 233", x.count(5), 233);
        x.end(232);
        Bounds.due("8 bytes are enough", x.feed(0x202020202020203BL), 240);
        Bounds.due("the last place is 239", x.text(), -10 - 239);
        Bounds.refused(() -> tape(Texts.filled("out a;", 240)), "feed", y -> y.feed(-1L), FULL);
        Bounds.refused(() -> tape(Texts.filled("out a;", 233)), "feed behind 233", y -> y.feed(-1L), FULL);
    }

    private static WaitingWires tape(String bytes) {
        WaitingWires x = Texts.used(Texts.LATCH).get();
        Checks.put(x, bytes);
        return x;
    }

    private static void end() {
        Bounds.of(3, "THE TAPE keeps its first n bytes: how many it had.");
        WaitingWires x = new WaitingWires();
        Bounds.due("none of none", x.end(0), 0);
        x.feed(Checks.eight(Checks.bytes("in a;###"), 0));
        Bounds.due("all of 8", x.end(8), 8);
        Bounds.due("5 of 8", x.end(5), 8);
        Bounds.due("count(5)", x.count(5), 5);
        Bounds.due("the first 5", x.text(), 0);
        Bounds.due("one WIRE", x.count(0), 1);
        x.feed(0);
        Bounds.due("none of 8", x.end(0), 8);
        Bounds.due("count(5)", x.count(5), 0);
        Checks.put(x, Texts.filled("", 240));
        Bounds.due("all of 240", x.end(240), 240);
        Bounds.due("none of 240", x.end(0), 240);

        Bounds.of(3, "BAD (n above that, too).");
        Bounds.due("1 of none", x.end(1), BAD);
        int[] wrong = {-1, 9, 10, 240, 241};
        for (int n : wrong) {
            Bounds.refused(() -> tape("out a;  "), "end(" + n + ") of 8", y -> y.end(n), BAD);
        }
        Checks.put(x, "12345678");
        Bounds.dueForAll("end of 8", Bounds.FAR, x::end, BAD);
        Checks.put(x, Texts.filled("", 240));
        Bounds.due("241 of 240", x.end(241), BAD);
    }

    private static void wire() {
        Bounds.of(6, "Of a WIRE: 0 its LETTER (a is 0), 1 kind, 2 how many EVENTS it has.");
        WaitingWires x = Checks.told(Texts.events(16));
        Bounds.due("a", x.wire(0, 0), 0);
        Bounds.due("16 EVENTS", x.wire(0, 2), 16);
        Bounds.tell(x, "in z;");
        Bounds.due("z", x.wire(0, 0), 25);
        Bounds.due("no EVENTS", x.wire(0, 2), 0);

        Bounds.terms(6, "1 WIRES (6) are numbered as they are told, each a letter, of a kind: 0 in, 1 out, 2 inner.");
        Bounds.due("six", Checks.tell(x, "out f;in a;inner e;in b;out d;inner c;"), 0);
        int[] letters = {5, 0, 4, 1, 3, 2};
        int[] kinds = {1, 0, 2, 0, 1, 2};
        for (int w = 0; w < 6; w++) {
            Bounds.due("LETTER of " + w, x.wire(w, 0), letters[w]);
            Bounds.due("kind of " + w, x.wire(w, 1), kinds[w]);
        }

        Bounds.of(6, "BAD.");
        Bounds.due("wire(6, 0) of six", x.wire(6, 0), BAD);
        Bounds.tell(x, Texts.LATCH);
        int[] noWire = {-1, 2, 5, 6};
        int[] noWhat = {-1, 3, 4};
        for (int what = 0; what < 3; what++) {
            int w = what;
            Bounds.dueForAll("WIRE", noWire, i -> x.wire(i, w), BAD);
            Bounds.dueForAll("WIRE", Bounds.FAR, i -> x.wire(i, w), BAD);
        }
        Bounds.dueForAll("what", noWhat, i -> x.wire(1, i), BAD);
        Bounds.dueForAll("what", Bounds.FAR, i -> x.wire(1, i), BAD);
    }

    private static void event() {
        Bounds.of(7, "Of an EVENT: 0 its WIRE, 1 whether it rises, 2 INDEX, 3 PLACES from which it takes (bits), "
            + "4 that it feeds, 5 DELAY.");
        WaitingWires x = Checks.told("in b;out a;place b-/9>a+ 1;");
        int[][] due = {{0, 0, 9, 0, 1, 1}, {1, 1, 0, 1, 0, 1}};
        for (int e = 0; e < 2; e++) {
            for (int what = 0; what < 6; what++) {
                Bounds.due("event(" + e + ", " + what + ")", x.event(e, what), due[e][what]);
            }
        }
        x.delay(0, 20);
        Bounds.due("the greatest DELAY", x.event(0, 5), 20);
        Bounds.tell(x, Texts.twentyPlaces(0));
        Bounds.due("takes from all 20", x.event(0, 3), (1 << 20) - 1);
        Bounds.due("feeds none", x.event(0, 4), 0);
        StringBuilder fed = new StringBuilder("in a;place a+>a+0;");
        for (int p = 1; p < 17; p++) {
            fed.append("place a+>a+0;");
        }
        Bounds.tell(x, fed.toString());
        Bounds.due("feeds all 17", x.event(0, 4), (1 << 17) - 1);
        Bounds.due("takes from all 17", x.event(0, 3), (1 << 17) - 1);

        Bounds.terms(7, "EVENTS (16) are numbered as they come in a text: a WIRE that rises or falls, "
            + "with an INDEX (0 to 9; 0, if none is told).");
        Bounds.tell(x, "in a;in b;place b+/0 a-/9>b+/9 b- 0;place a+>b+ b-/0 a-/9 1;");
        int[][] numbered = {{1, 1, 0}, {0, 0, 9}, {1, 1, 9}, {1, 0, 0}, {0, 1, 0}};
        Bounds.due("five EVENTS", x.count(1), 5);
        for (int e = 0; e < 5; e++) {
            for (int what = 0; what < 3; what++) {
                Bounds.due("event(" + e + ", " + what + ")", x.event(e, what), numbered[e][what]);
            }
        }
        Bounds.tell(x, Texts.events(16));
        Bounds.due("sixteen EVENTS", x.count(1), 16);
        Bounds.due("the last", x.event(15, 2), 7);

        Bounds.of(7, "BAD.");
        Bounds.due("event(16, 0) of sixteen", x.event(16, 0), BAD);
        Bounds.tell(x, Texts.LATCH);
        int[] noEvent = {-1, 4, 15, 16};
        int[] noWhat = {-1, 6, 7};
        for (int what = 0; what < 6; what++) {
            int w = what;
            Bounds.dueForAll("EVENT", noEvent, i -> x.event(i, w), BAD);
            Bounds.dueForAll("EVENT", Bounds.FAR, i -> x.event(i, w), BAD);
        }
        Bounds.dueForAll("what", noWhat, i -> x.event(3, i), BAD);
        Bounds.dueForAll("what", Bounds.FAR, i -> x.event(3, i), BAD);
    }

    private static void place() {
        Bounds.of(8, "Of a PLACE: 0 EVENTS that feed it (bits), 1 that take from it, 2 whether it has a TOKEN at first.");
        WaitingWires x = Checks.told("in a;place>a+ 1;place a+ a->a- 0;");
        int[][] due = {{0, 1, 1}, {3, 2, 0}};
        for (int p = 0; p < 2; p++) {
            for (int what = 0; what < 3; what++) {
                Bounds.due("place(" + p + ", " + what + ")", x.place(p, what), due[p][what]);
            }
        }
        x.come(0);
        Bounds.due("at first, not now", x.place(0, 2), 1);
        Bounds.due("at first, not now", x.place(1, 2), 0);
        String side = Texts.sixteenEvents();
        Bounds.tell(x, "in a;place " + side + ">" + side + "0;");
        Bounds.due("all 16 feed it", x.place(0, 0), 65535);
        Bounds.due("all 16 take from it", x.place(0, 1), 65535);

        Bounds.terms(8, "PLACES (20) are numbered as they are told: EVENTS that feed it, EVENTS that take from it, "
            + "a TOKEN or none at first.");
        StringBuilder twenty = new StringBuilder("in a;");
        for (int p = 0; p < 20; p++) {
            twenty.append("place>a").append(p == 19 ? "-1;" : "+0;");
        }
        Bounds.due("twenty PLACES", Checks.tell(x, twenty.toString()), 20);
        for (int p = 0; p < 20; p++) {
            Bounds.due("place(" + p + ", 1)", x.place(p, 1), p == 19 ? 2 : 1);
            Bounds.due("place(" + p + ", 2)", x.place(p, 2), p == 19 ? 1 : 0);
        }

        Bounds.of(8, "BAD.");
        Bounds.due("place(20, 0) of twenty", x.place(20, 0), BAD);
        Bounds.tell(x, Texts.LATCH);
        int[] noPlace = {-1, 4, 19, 20, 31, 32};
        int[] noWhat = {-1, 3, 4};
        for (int what = 0; what < 3; what++) {
            int w = what;
            Bounds.dueForAll("PLACE", noPlace, i -> x.place(i, w), BAD);
            Bounds.dueForAll("PLACE", Bounds.FAR, i -> x.place(i, w), BAD);
        }
        Bounds.dueForAll("what", noWhat, i -> x.place(3, i), BAD);
        Bounds.dueForAll("what", Bounds.FAR, i -> x.place(3, i), BAD);

        Bounds.terms(8, "What is numbered has its numbers from 0 on, as it comes, where nothing else is told.");
        Bounds.due("the first PLACE is 0", x.place(0, 0), 1);
        Bounds.due("the first WIRE is 0", x.wire(0, 0), 0);
        Bounds.due("the first EVENT is 0", x.event(0, 1), 1);
        Bounds.due("the first STATE is 0", x.of(0, 0), 8);
    }
}

/** Promises 1 to 8: a new object, the tape, texts and their faults, what was told. */
public final class NetTest {
    private static final int BAD = WaitingWires.BAD, FULL = WaitingWires.FULL, NONE = WaitingWires.NONE;
    private static final String LATCH = Texts.LATCH;

    public static void main(String[] args) {
        newObject();
        tape();
        taken();
        faults();
        firstMet();
        refusedChangesNothing();
        limits();
        parts();
        Checks.finish();
    }

    private static void newObject() {
        WaitingWires x = new WaitingWires();
        for (int what = 0; what < 6; what++) {
            Checks.due("new: count(" + what + ")", x.count(what), 0);
        }
        Checks.due("new: count(6)", x.count(6), NONE);
        Checks.due("new: states()", x.states(), 1);
        Checks.due("new: right()", x.right(), 1);
        Checks.due("new: of(0, 0)", x.of(0, 0), 0);
        Checks.due("new: of(0, 1)", x.of(0, 1), 0);
        Checks.due("new: of(0, 10)", x.of(0, 10), BAD);
        Checks.due("new: fault()", x.fault(), 0);
        Checks.due("new: run(2)", x.run(2), 0);
        for (int k = 0; k < 4; k++) {
            Checks.due("new: lay(" + k + ")", x.lay(k, 0, 0), -11);
            Checks.due("new: row(" + k + ")", x.row(k, 0, 0, 0), -11);
        }
    }

    private static void tape() {
        WaitingWires x = new WaitingWires();
        for (int i = 1; i <= 30; i++) {
            Checks.due("feed " + i, x.feed(-1L), 8 * i);
        }
        Checks.due("feed 31", x.feed(0), FULL);
        Checks.due("count(5)", x.count(5), 240);
        Checks.due("end(241)", x.end(241), BAD);
        Checks.due("end(-1)", x.end(-1), BAD);
        Checks.due("end(min)", x.end(Integer.MIN_VALUE), BAD);
        Checks.due("end(240)", x.end(240), 240);
        Checks.due("end(233)", x.end(233), 240);
        Checks.due("feed behind 233", x.feed(0), FULL);
        Checks.due("end(232)", x.end(232), 233);
        Checks.due("feed behind 232", x.feed(0), 240);
        Checks.due("end(0)", x.end(0), 240);
        Checks.due("end(1)", x.end(1), BAD);
        Checks.due("end(0) of none", x.end(0), 0);
        Checks.due("text() of none", x.text(), 0);
        // the highest byte comes first: "in a;" and three bytes that go again
        x.feed(0x696E20613B000000L);
        x.end(5);
        Checks.due("text() of in a;", x.text(), 0);
        Checks.due("wire(0, 0)", x.wire(0, 0), 0);
        Checks.due("the tape is empty then", x.count(5), 0);
    }

    private static void taken() {
        WaitingWires x = Checks.told(LATCH);
        Checks.due("fault()", x.fault(), 0);
        Checks.due("count(2)", x.count(2), 4);
        Checks.due("blanks", Checks.tell(x, "  in  a ;out b;place  a +  / 3 a+>b + 1 ;place>b+/0 0;  "), 2);
        Checks.due("a+/3 is an event of its own", x.count(1), 3);
        Checks.due("b+ is b+/0", x.event(2, 2), 0);
        Checks.due("its places", x.event(2, 3), 3);
        Checks.due("no blanks where none is needed", Checks.tell(x, "in a;place a+a-/2>a+0;"), 1);
        Checks.due("number and name", Checks.tell(x, "in a;place a+/1a->a+/2a+1;"), 1);
        Checks.due("the same on both sides", Checks.tell(x, "in a;place a+>a+ 1;"), 1);
        Checks.due("place(0, 0)", x.place(0, 0), 1);
        Checks.due("place(0, 1)", x.place(0, 1), 1);
        x.delay(0, 9);
        x.come(0);
        Checks.tell(x, "in a;place a+>a+ 1;");
        Checks.due("delays are 1 anew", x.event(0, 5), 1);
        Checks.due("the run begins anew", x.run(2), 0);
        Checks.due("blanks alone", Checks.tell(x, "        "), 0);
        Checks.due("nothing then", x.count(0), 0);
    }

    private static void fault(String text, int fault, int place) {
        WaitingWires x = Checks.told(LATCH);
        Checks.due("text() of '" + text + "'", Checks.tell(x, text), -10 - place);
        Checks.due("fault() of '" + text + "'", x.fault(), fault);
        Checks.due("tape behind '" + text + "'", x.count(5), 0);
        Checks.due("what stood behind '" + text + "'", x.count(2), 4);
    }

    private static void faults() {
        fault("#", 1, 0);
        fault("in a;\n", 1, 5);
        fault("in A;", 1, 3);
        fault("in a\u00e9;", 1, 4);
        fault("in a;place a+/00>a- 0;", 1, 14);
        fault("in a;place a+>a- 01;", 1, 17);
        fault("12", 1, 0);
        fault("in", 2, 2);
        fault("in  ", 2, 4);
        fault("in a", 2, 4);
        fault("in a;in", 2, 7);
        fault("in 1;", 2, 3);
        fault("in ab;", 2, 3);
        fault("in a,", 1, 4);
        fault("in a b;", 2, 5);
        fault("ina;", 2, 0);
        fault("inn a;", 2, 0);
        fault("a+;", 2, 0);
        fault(";", 2, 0);
        fault("in a;;", 2, 5);
        fault("place;", 2, 5);
        fault("in a;place aa+>a- 0;", 2, 11);
        fault("in a;place a>a- 0;", 2, 12);
        fault("in a;place a+/a>a- 0;", 2, 14);
        fault("in a;place a+/1/1>a- 0;", 2, 15);
        fault("in a;place a+ 0;", 2, 14);
        fault("in a;place>0;", 2, 11);
        fault("in a;place>>a+ 0;", 2, 11);
        fault("in a;place>a+;", 2, 13);
        fault("in a;place>a+ 0", 2, 15);
        fault("in a;place>a+ 0 0;", 2, 16);
        fault("in a;place>a+ 2;", 3, 14);
        fault("in a;place>a+ 9;", 3, 14);
        fault("in a;out a;", 4, 9);
        fault("in a;inner a;", 4, 11);
        fault("in a;place b+>a+ 0;", 4, 11);
        fault("in a;place>b+ 0;", 4, 11);
        fault("in a;place a+ a-  a+>a+ 0;", 5, 18);
        fault("in a;place a+ a+/0>a+ 0;", 5, 14);
        fault("in a;place>a-/3 a-/3 0;", 5, 16);
    }

    /** A token is judged ahead of the one behind it; an event when the token behind it has been read. */
    private static void firstMet() {
        fault("in a;in a#", 4, 8);
        fault("in a;place b#", 4, 11);
        fault("in a;place>a+ 2#", 3, 14);
        fault("in a;place a+ a+#", 1, 16);
        fault("in a;place a+ a+/0#", 1, 18);
        fault("in a;place a+ a+;", 5, 14);
        fault("in a;place a+ a+/0;", 5, 14);
        fault("in a;place a+ a+/;", 2, 17);
        fault("in a;place a#", 1, 12);
    }

    private static void refusedChangesNothing() {
        WaitingWires x = Checks.told(LATCH);
        x.delay(2, 7);
        x.come(3 - 3);
        x.sheet(1, 0, 3);
        Checks.due("refused", Checks.tell(x, "in c;place>c+ 1;in c;"), -10 - 19);
        Checks.due("fault()", x.fault(), 4);
        Checks.due("wires", x.count(0), 2);
        Checks.due("letter", x.wire(0, 0), 0);
        Checks.due("delay", x.event(2, 5), 7);
        Checks.due("run", x.run(2), 1);
        Checks.due("states", x.states(), 4);
        Checks.due("fault() stays", x.fault(), 4);
        Checks.due("taken", Checks.tell(x, "in c;"), 0);
        Checks.due("fault() of the latest", x.fault(), 0);
        Checks.due("sheets stay", x.lay(1, 2, 1), 1);
    }

    private static void limits() {
        String six = "in a;in b;in c;in d;in e;in f;";
        fault(six + "in a;", 6, 30);
        fault(six + "out", 6, 30);
        fault(six + "inner#", 6, 30);
        WaitingWires x = Checks.told(six);
        Checks.due("six wires", x.count(0), 6);
        StringBuilder events = new StringBuilder("in a;in b;place>");
        for (int i = 0; i < 16; i++) {
            events.append(i % 2 == 0 ? "a+/" : "b-/").append(i / 2).append(' ');
        }
        Checks.due("sixteen events", Checks.tell(x, events + "0;"), 1);
        Checks.due("count(1)", x.count(1), 16);
        Checks.due("takes", x.place(0, 1), 65535);
        fault(events + "a+/9 0;", 6, events.length());
        fault(events + "a-;", 6, events.length());
        fault(events + "a-#", 1, events.length() + 2);
        fault(events + "a-", 6, events.length());
        fault(events + "a-/", 2, events.length() + 3);
        fault(events + "a+/0 0;", 5, events.length());
        StringBuilder places = new StringBuilder("in a;");
        for (int i = 0; i < 20; i++) {
            places.append("place>a+ 0;");
        }
        Checks.due("twenty places", Checks.tell(x, places.toString()), 20);
        fault(places + "place#", 6, 225);
        fault(places + "place", 6, 225);
        Checks.tell(x, places.substring(0, places.length() - 3) + "1;");
        Checks.due("place(19, 2)", x.place(19, 2), 1);
    }

    private static void parts() {
        WaitingWires x = Checks.told("out c;in z;inner a;place c+>z+ z-/4 0;place z+>c+ c-/2 1;");
        int[][] wires = {{2, 1, 2}, {25, 0, 2}, {0, 2, 0}};
        for (int w = 0; w < 3; w++) {
            for (int what = 0; what < 3; what++) {
                Checks.due("wire(" + w + ", " + what + ")", x.wire(w, what), wires[w][what]);
            }
        }
        int[][] events = {{0, 1, 0, 2, 1, 1}, {1, 1, 0, 1, 2, 1}, {1, 0, 4, 1, 0, 1}, {0, 0, 2, 2, 0, 1}};
        for (int e = 0; e < 4; e++) {
            for (int what = 0; what < 6; what++) {
                Checks.due("event(" + e + ", " + what + ")", x.event(e, what), events[e][what]);
            }
        }
        int[][] places = {{1, 6, 0}, {2, 9, 1}};
        for (int p = 0; p < 2; p++) {
            for (int what = 0; what < 3; what++) {
                Checks.due("place(" + p + ", " + what + ")", x.place(p, what), places[p][what]);
            }
        }
        int[] wrong = {-1, 7, Integer.MIN_VALUE, Integer.MAX_VALUE};
        for (int i : wrong) {
            Checks.due("wire(0, wrong)", x.wire(0, i), BAD);
            Checks.due("wire(wrong, 0)", x.wire(i, 0), BAD);
            Checks.due("event(0, wrong)", x.event(0, i), BAD);
            Checks.due("event(wrong, 0)", x.event(i, 0), BAD);
            Checks.due("place(0, wrong)", x.place(0, i), BAD);
            Checks.due("place(wrong, 0)", x.place(i, 0), BAD);
        }
        Checks.due("wire(3, 0)", x.wire(3, 0), BAD);
        Checks.due("wire(0, 3)", x.wire(0, 3), BAD);
        Checks.due("event(4, 0)", x.event(4, 0), BAD);
        Checks.due("event(0, 6)", x.event(0, 6), BAD);
        Checks.due("place(2, 0)", x.place(2, 0), BAD);
        Checks.due("place(0, 3)", x.place(0, 3), BAD);
    }
}

import java.util.List;

/** Promises 4 and 5, sentence by sentence: texts, their tokens and their faults. */
final class TextBounds {
    private TextBounds() { }

    static void all() {
        text();
        textRefused();
        latestFault();
        tokens();
        blanks();
        grammar();
        faultOne();
        faultTwo();
        faultsThreeToFive();
        faultSix();
        firstMet();
        tellsAll();
    }

    private static void taken(String text, int places) {
        WaitingWires x = Checks.told(Texts.QUARREL);
        Bounds.due("text() of '" + text + "'", Checks.tell(x, text), places);
        Bounds.due("fault() of '" + text + "'", x.fault(), 0);
        Bounds.due("the tape behind '" + text + "'", x.count(5), 0);
        Bounds.due("places behind '" + text + "'", x.count(2), places);
    }

    private static void fault(String text, int fault, int place) {
        WaitingWires x = Checks.told(Texts.QUARREL);
        Bounds.due("text() of '" + text + "'", Checks.tell(x, text), -10 - place);
        Bounds.due("fault() of '" + text + "'", x.fault(), fault);
        Bounds.due("the tape behind '" + text + "'", x.count(5), 0);
        Bounds.due("places behind '" + text + "'", x.count(2), 6);
    }

    private static void text() {
        Bounds.of(4, "THE TAPE (empty then, by a FAULT, too) tells the net: how many PLACES");
        taken("", 0);
        taken("in a;", 0);
        taken("in a;place>a+ 1;", 1);
        taken(Texts.places(20), 20);
        WaitingWires x = Checks.told(Texts.QUARREL);
        Bounds.due("an empty one tells a net of nothing", x.text(), 0);
        Bounds.due("one STATE", x.states(), 1);
        Bounds.due("no WIRE", x.count(0), 0);
        x.feed(-1L);
        Bounds.due("a FAULT", x.text(), -10);
        Bounds.due("the tape is empty then", x.count(5), 0);
        Bounds.due("and takes 8 again", x.feed(0x2020202020202020L), 8);
        Bounds.due("which are all", x.text(), 0);
    }

    private static void textRefused() {
        Bounds.of(4, "-10 less the place of its FAULT: that which was told stays.");
        fault("#", 1, 0);
        fault(Texts.filled("", 239) + "#", 1, 239);
        fault(Texts.filled("in a", 240), 2, 240);
        fault(Texts.filled("", 239) + "a", 2, 239);
        Bounds.terms(4, "what is refused changes nothing (but THE TAPE, as told)");
        String[] wrong = {"in q;place>q+ 1;#", "in q;in", "in q;place>q+ 2;", "in q;in q;", "in q;place q+ q+>q+ 0;",
            Texts.SIX_WIRES + "in g;"};
        int[] answers = {-26, -17, -24, -18, -24, -40};
        for (int i = 0; i < wrong.length; i++) {
            WaitingWires with = Texts.used(Texts.QUARREL).get();
            WaitingWires without = Texts.used(Texts.QUARREL).get();
            without.end(0);
            Bounds.due("text() of '" + wrong[i] + "'", Checks.tell(with, wrong[i]), answers[i]);
            Bounds.due("fault() of '" + wrong[i] + "'", with.fault(), i + 1);
            // but for the fault, which stands first in the row, all is as it is with an empty tape
            List<Integer> before = Look.at(without);
            List<Integer> after = Look.at(with);
            before.set(0, i + 1);
            Bounds.due("'" + wrong[i] + "' changes nothing else", before.equals(after) ? 1 : 0, 1);
        }
    }

    private static void latestFault() {
        Bounds.of(5, "The FAULT of the latest text(); 0.");
        WaitingWires x = new WaitingWires();
        Bounds.due("of none", x.fault(), 0);
        String[] texts = {"#", "in", "in a;place>a+ 2;", "in a;in a;", "in a;place>a+ a+ 0;", Texts.SIX_WIRES + "in g;"};
        for (int i = 0; i < texts.length; i++) {
            Checks.tell(x, texts[i]);
            Bounds.due("of '" + texts[i] + "'", x.fault(), i + 1);
            Bounds.due("asked again", x.fault(), i + 1);
            x.feed(0);
            x.end(0);
            Bounds.due("feed and end are no text", x.fault(), i + 1);
        }
        x.text();
        Bounds.due("of the empty one", x.fault(), 0);
        Bounds.tell(x, Texts.LATCH);
        Bounds.due("of one that is taken", x.fault(), 0);
    }

    private static void tokens() {
        Bounds.terms(4, "TOKENS of the text, each as long as may be");
        fault("ina;", 2, 0);
        fault("innera;", 2, 0);
        fault("in a;placea+>a- 0;", 2, 5);
        fault("in ab;", 2, 3);
        fault("in a;place>a+ 10;", 1, 14);

        Bounds.terms(4, "NAMES (a .. z), NUMBERS (1 figure), one of the signs + - / > ; (every other byte is no TOKEN)");
        for (int b = 0; b < 256; b++) {
            String one = String.valueOf((char) b);
            boolean token = "abcdefghijklmnopqrstuvwxyz0123456789+-/>;".contains(one);
            if (b == ' ') {
                taken(one, 0);
            } else {
                fault(one, token ? 2 : 1, 0);
            }
        }
        for (char c = 'a'; c <= 'z'; c++) {
            WaitingWires x = Checks.told("in " + c + ";");
            Bounds.due("LETTER " + c, x.wire(0, 0), c - 'a');
        }
        for (int i = 0; i < 10; i++) {
            WaitingWires x = Checks.told("in a;place>a+/" + i + " 0;");
            Bounds.due("NUMBER " + i, x.event(0, 2), i);
        }
    }

    private static void blanks() {
        Bounds.terms(4, "any number of blanks (32) ahead of, between, behind them");
        taken(" ", 0);
        taken(Texts.filled("", 240), 0);
        taken("   in   a   ;   place   a   +   /   3   a   -   >   a   +   1   ;   ", 1);
        taken(Texts.filled("", 235) + "in a;", 0);
        taken(Texts.filled("in a;", 240), 0);
        fault("in\ta;", 1, 2);
        fault("in a;\n", 1, 5);
        fault("in\u00a0a;", 1, 2);

        Bounds.terms(4, "(one at least between two NAMES, between two NUMBERS; else none is needed)");
        fault("outa;", 2, 0);
        taken("out a;", 0);
        fault("in a;place>a+/00;", 1, 14);
        taken("in a;place>a+/0 0;", 1);
        taken("in a;in b;place a+b-/2a-/9b+>a+b-0;", 1);
        taken("in a;place>a+1;", 1);
    }

    private static void grammar() {
        Bounds.terms(4, "text: { line }");
        taken("", 0);
        taken("in a;in b;", 0);
        fault(";", 2, 0);
        fault("in a;;", 2, 5);
        fault("a+", 2, 0);
        fault("on a;", 2, 0);
        Bounds.terms(4, "line: in LETTER ; | out LETTER ; | inner LETTER ; | place { EVENT } > EVENT { EVENT } N ;");
        taken("in a;out b;inner c;place>a+0;", 1);
        taken("in a;place a+>a+0;", 1);
        taken("in a;place a+ a->a- a+0;", 1);
        fault("in a,", 1, 4);
        fault("in a>", 2, 4);
        fault("in;", 2, 2);
        fault("in a b;", 2, 5);
        fault("out +;", 2, 4);
        fault("inner 1;", 2, 6);
        fault("in a;place a+ 0;", 2, 14);
        fault("in a;place>0;", 2, 11);
        fault("in a;place>;", 2, 11);
        fault("in a;place>>a+0;", 2, 11);
        fault("in a;place>a+;", 2, 13);
        fault("in a;place>a+>0;", 2, 13);
        fault("in a;place>a+0 0;", 2, 15);
        fault("in a;place>a+0 a+;", 2, 15);
        Bounds.terms(4, "EVENT: LETTER ( + | - ) [ / NUMBER ]");
        taken("in a;place a+ a- a+/1>a-/9 a+/0 0;", 1);
        fault("in a;place>a 0;", 2, 13);
        fault("in a;place>a++0;", 2, 13);
        fault("in a;place>a/1 0;", 2, 12);
        fault("in a;place>a+/ ;", 2, 15);
        fault("in a;place>a+/a 0;", 2, 14);
        fault("in a;place>a+/1/1 0;", 2, 15);
        fault("in a;place>a+1/1;", 2, 14);
        fault("in a;place>+a 0;", 2, 11);
        Bounds.terms(4, "LETTER: a NAME of one letter");
        fault("in aa;", 2, 3);
        fault("in in;", 2, 3);
        fault("in a;place aa+>a+0;", 2, 11);
        fault("in a;place>aa+0;", 2, 11);
        fault("in a;place>a+ aa+0;", 2, 14);
        fault("in a;place>a+ in 0;", 2, 14);
        Bounds.terms(4, "N: 0 or 1");
        taken("in a;place>a+0;", 1);
        taken("in a;place>a+1;", 1);
        fault("in a;place>a+2;", 3, 13);
        Bounds.terms(4, "A PLACE has each EVENT once at most on each side.");
        taken("in a;place a+>a+0;", 1);
        taken("in a;place a+ a+/1 a->a+ a+/1 a-0;", 1);
        taken("in a;place a+>a+0;place a+>a+0;", 2);
        fault("in a;place a+ a- a+>a+0;", 5, 17);
        fault("in a;place a+>a+ a- a+/0 0;", 5, 20);
    }

    private static void faultOne() {
        Bounds.terms(4, "1 no TOKEN, a NUMBER that is too long (its first byte).");
        fault("in a;#", 1, 5);
        fault("in#a;", 1, 2);
        fault("A", 1, 0);
        fault("in a;place>a+/\u00ff", 1, 14);
        fault("12", 1, 0);
        fault("  0123456789", 1, 2);
        fault("in a;place>a+/10 0;", 1, 14);
        fault("in a;place>a+ 00;", 1, 14);
        fault("in a;place>a+ 1 0;", 2, 16);
        fault(Texts.filled("", 238) + "00", 1, 238);
        fault(Texts.filled("", 239) + "0", 2, 239);
    }

    private static void faultTwo() {
        Bounds.terms(4, "2 a TOKEN that can not stand there (or the end: the length).");
        fault("7", 2, 0);
        fault("in", 2, 2);
        fault("in   ", 2, 5);
        fault("in a", 2, 4);
        fault("in a;place", 2, 10);
        fault("in a;place a", 2, 12);
        fault("in a;place a+", 2, 13);
        fault("in a;place a+/", 2, 14);
        fault("in a;place a+/1", 2, 15);
        fault("in a;place a+/1>", 2, 16);
        fault("in a;place a+/1>a-", 2, 18);
        fault("in a;place a+/1>a-0", 2, 19);
        fault(Texts.filled("in a;place a+/1>a-0", 240), 2, 240);
        fault("in a;place a- a+/1;", 2, 18);
        fault("in a;place a- 1>a+0;", 2, 14);
    }

    private static void faultsThreeToFive() {
        Bounds.terms(4, "3 N above 1.");
        for (int n = 0; n < 10; n++) {
            if (n < 2) {
                taken("in a;place>a+ " + n + ";", 1);
            } else {
                fault("in a;place>a+ " + n + ";", 3, 14);
            }
        }
        Bounds.terms(4, "4 a LETTER that is a WIRE already (in, out, inner), that is none (in an EVENT) (it).");
        String[] kinds = {"in", "out", "inner"};
        for (String kind : kinds) {
            fault("in a;" + kind + "  a;", 4, 7 + kind.length());
            fault(kind + " a;" + kind + " b;in b;", 4, 2 * kind.length() + 9);
        }
        fault("place a+>a+0;", 4, 6);
        fault("in a;place b+>a+0;", 4, 11);
        fault("in a;place a+ b+>a+0;", 4, 14);
        fault("in a;place>b+0;", 4, 11);
        fault("in a;place>a+ b+0;", 4, 14);
        fault("in a;place>b+0;in b;", 4, 11);
        Bounds.terms(4, "5 an EVENT that the side has already (its LETTER).");
        fault("in a;place a+  a+>a+0;", 5, 15);
        fault("in a;place a+ a + / 0>a+0;", 5, 14);
        fault("in a;place a+/0 a+>a+0;", 5, 16);
        fault("in a;place>a-/9 a-/8 a-/9 0;", 5, 21);
        taken("in a;place>a-/9 a-/8 a+/9 0;", 1);
        String side = Texts.sixteenEvents();
        for (int e = 0; e < 16; e++) {
            String again = side.substring(5 * e, 5 * e + 4);
            fault("in a;place " + side + again + ">a+ 0;", 5, 11 + side.length());
            fault("in a;place>" + side + again + " 0;", 5, 11 + side.length());
        }
        taken("in a;in b;place>a- b- 0;", 1);
    }

    private static void faultSix() {
        Bounds.terms(4, "6 the 7th WIRE (in, out, inner)");
        taken(Texts.SIX_WIRES, 0);
        fault(Texts.SIX_WIRES + "in g;", 6, 30);
        fault(Texts.SIX_WIRES + "  out g;", 6, 32);
        fault(Texts.SIX_WIRES + "inner g;", 6, 30);
        fault(Texts.SIX_WIRES + "in", 6, 30);
        fault(Texts.SIX_WIRES + "in a;", 6, 30);
        Bounds.terms(4, "the 17th EVENT (its LETTER, when it has been read as a whole)");
        String sixteen = Texts.events(16);
        int at = sixteen.length();
        taken(sixteen, 2);
        taken(sixteen + "place a+/7 a-/7>a+/0 a+/1 0;", 3);
        fault(sixteen + "place>a-/8 0;", 6, at + 6);
        fault(sixteen + "place  a+/9>a+ 0;", 6, at + 7);
        fault(sixteen + "place>a+/7 a+/8;", 6, at + 11);
        fault(sixteen + "place>a+/", 2, at + 9);
        fault(sixteen + "place>a+/99", 1, at + 9);
        fault(sixteen + "place>a*", 1, at + 7);
        String side = Texts.sixteenEvents();
        taken("in a;place " + side + ">" + side + "0;", 1);
        fault("in a;place " + side + "a+/9>a+ 0;", 6, 11 + side.length());
        fault("in a;place>" + side + "a+/9 0;", 6, 11 + side.length());
        Bounds.terms(4, "the 21st PLACE (place).");
        String twenty = Texts.twentyPlaces(0);
        taken(twenty, 20);
        fault(twenty + "place>a+0;", 6, 205);
        fault(twenty + " place", 6, 206);
        fault(twenty + "place>b+ 2;", 6, 205);
        taken(twenty + "in b;", 20);
    }

    private static void firstMet() {
        Bounds.terms(4, "FAULTS, the first met as it is read (a TOKEN is read when the one before has been taken):");
        fault("in a;in a#", 4, 8);
        fault("in a;place b#", 4, 11);
        fault("in a;place>a+ 2#", 3, 14);
        fault("in ab#", 2, 3);
        fault(Texts.SIX_WIRES + "in#", 6, 30);
        fault("in a#in a;", 1, 4);
        fault("in a;place>a+ 2;in a;", 3, 14);
        fault("in a;in a;place>a+ 2;", 4, 8);
        // an EVENT may go on behind its sign: the TOKEN there is read ahead of judging it
        fault("in a;place a+ a+#", 1, 16);
        fault("in a;place a+ a+/0#", 1, 18);
        fault("in a;place a+ a+/", 2, 17);
        fault("in a;place a+ a+/;", 2, 17);
        fault("in a;place a+ a+/1>a+ 0 0", 2, 24);
        fault("in a;place a+ a+;", 5, 14);
        fault("in a;place a+ a+", 5, 14);
    }

    /** Each text, told behind others of whose nets all was asked, tells what it tells to a new object. */
    private static void asNew(String... texts) {
        WaitingWires x = new WaitingWires();
        for (String text : texts) {
            Bounds.tell(x, text);
            Bounds.due("'" + text + "' as told to a new one", Look.at(x).equals(Look.at(Checks.told(text))) ? 1 : 0, 1);
        }
    }

    private static void tellsAll() {
        Bounds.terms(4, "A text that is taken tells all, in place of what there was (DELAYS 1 each; THE RUN begins anew); "
            + "SHEETS stay.");
        WaitingWires x = Texts.used(Texts.QUARREL).get();
        WaitingWires fresh = Texts.used(Texts.QUARREL).get();
        Bounds.due("three came", x.run(2), 3);
        Bounds.due("a DELAY", x.event(1, 5), 2);
        Bounds.tell(x, Texts.QUARREL);
        Bounds.due("none came", x.run(2), 0);
        Bounds.due("the first MARKING", x.run(0), 32);
        for (int e = 0; e < 6; e++) {
            Bounds.due("DELAY of " + e, x.event(e, 5), 1);
        }
        Bounds.due("beat(0)", x.beat(0), 6);
        Bounds.due("CELLS of SHEET 0", x.count(6), fresh.count(6));
        for (int k = 0; k < 4; k++) {
            for (int i = 0; i < 65; i++) {
                Bounds.due("CELL " + i + " of " + k, x.row(k, k % 3, i, 1), fresh.row(k, k % 3, i, 1));
            }
        }
        asNew(Texts.QUARREL, Texts.MEET, Texts.FORK, Texts.LATCH, Texts.NOT_RIGHT, Texts.UNSAFE, "out a;place>a+ 1;", Texts.MEET, "");
        Bounds.tell(x, "inner z;");
        Bounds.due("one WIRE", x.count(0), 1);
        Bounds.due("its LETTER", x.wire(0, 0), 25);
        Bounds.due("no EVENTS", x.count(1), 0);
        Bounds.due("no PLACES", x.count(2), 0);
        Bounds.due("no TOKENS", x.count(3), 0);
        Bounds.due("one STATE", x.states(), 1);
        Bounds.due("cures(0)", x.cures(0), Bounds.NONE);
        Bounds.due("beat(0)", x.beat(0), Bounds.NONE);
    }
}

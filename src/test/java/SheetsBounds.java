import java.util.function.Supplier;

/** Promises 28 to 31, sentence by sentence: sheets, cells, rows of events that are judged, counts. */
final class SheetsBounds {
    private static final int BAD = Bounds.BAD, NONE = Bounds.NONE;
    private static final int[] NO_SHEET = {-1, 4, 5, Bounds.MIN, Bounds.MAX};
    private static final int[] NO_LANE = {-1, 3, 4, Bounds.MIN, Bounds.MAX};

    private SheetsBounds() { }

    static void all() {
        sheet();
        sheetRefused();
        lay();
        layRefused();
        row();
        rowFrom();
        rowRefused();
        rowFaults();
        count();
    }

    private static void sheet() {
        Bounds.of(28, "A SHEET is a new row of CELLS 0: 1.");
        WaitingWires x = Checks.told("in a;place a+>a+ 1;");
        for (int k = 0; k < 4; k++) {
            Bounds.due("sheet(" + k + ", 1, 64)", x.sheet(k, 1, 64), 1);
            Bounds.due("64 CELLS 0", x.row(k, 1, 0, 64), NONE);
            for (int i = 0; i < 64; i++) {
                x.lay(k, i, 1);
            }
            Bounds.due("CELLS 1", x.row(k, 1, 0, 64), 0);
            Bounds.due("sheet(" + k + ", 1, 64) again", x.sheet(k, 1, 64), 1);
            Bounds.due("64 CELLS 0 again", x.row(k, 1, 0, 64), NONE);
        }
        // a shorter row, then a longer one: nothing is left of the one before
        x.lay(0, 63, 1);
        Bounds.due("shorter", x.sheet(0, 1, 3), 1);
        Bounds.due("three CELLS", x.row(0, 1, 0, 4), -12);
        Bounds.due("longer", x.sheet(0, 1, 64), 1);
        Bounds.due("CELL 63 is 0", x.row(0, 1, 0, 64), NONE);
        Bounds.terms(28, "SHEETS 0 to 3 are rows of BYTES (lane 0), SHORTS (1), INTS (2), all with a sign, with 0 to 64 CELLS, or nothing "
            + "(at first).");
        for (int lane = 0; lane < 3; lane++) {
            Bounds.due("no CELLS", x.sheet(3, lane, 0), 1);
            Bounds.due("CELL 0 of none", x.lay(3, 0, 1), -12);
            Bounds.due("one CELL", x.sheet(3, lane, 1), 1);
            Bounds.due("CELL 0 of one", x.lay(3, 0, 1), 1);
            Bounds.due("CELL 1 of one", x.lay(3, 1, 1), -12);
            Bounds.due("64 CELLS", x.sheet(3, lane, 64), 1);
            Bounds.due("CELL 63 of 64", x.lay(3, 63, 1), 1);
            Bounds.due("CELL 64 of 64", x.lay(3, 64, 1), -12);
            Bounds.due("65 CELLS", x.sheet(3, lane, 65), BAD);
        }
        Bounds.due("at first", new WaitingWires().lay(3, 0, 0), -11);
    }

    private static void sheetRefused() {
        Bounds.of(28, "BAD: also n above 64;");
        for (int k : NO_SHEET) {
            Bounds.refused(Texts.used(Texts.LATCH), "sheet(" + k + ", 0, 1)", x -> x.sheet(k, 0, 1), BAD);
            Bounds.due("ahead of SIZE", new WaitingWires().sheet(k, 0, -1), BAD);
        }
        for (int lane : NO_LANE) {
            Bounds.refused(Texts.used(Texts.LATCH), "sheet(0, " + lane + ", 1)", x -> x.sheet(0, lane, 1), BAD);
            Bounds.due("ahead of SIZE", new WaitingWires().sheet(0, lane, -1), BAD);
        }
        int[] tooMany = {65, 66, 128, Bounds.MAX};
        for (int n : tooMany) {
            Bounds.refused(Texts.used(Texts.LATCH), "sheet(1, 1, " + n + ")", x -> x.sheet(1, 1, n), BAD);
        }
        Bounds.of(28, "-14 (SIZE): n below 0.");
        int[] below = {-1, -2, -64, Bounds.MIN};
        for (int n : below) {
            Bounds.refused(Texts.used(Texts.LATCH), "sheet(2, 0, " + n + ")", x -> x.sheet(2, 0, n), -14);
            Bounds.refused(Texts.used(Texts.LATCH), "sheet(3, 2, " + n + ")", x -> x.sheet(3, 2, n), -14);
        }
    }

    /** What a cell of a lane has become is seen by what judge() says of it as a cube of six wires. */
    private static void holds(WaitingWires x, int lane, int v, boolean cube) {
        x.sheet(1, lane, 2);
        Bounds.due("lay " + v, x.lay(1, 1, v), 1);
        Bounds.due(v + " in lane " + lane + " is a CUBE", x.judge(0, 1, lane, 1, 1) == -20 ? 0 : 1, cube ? 1 : 0);
        Bounds.due("the CELL beside is 0", x.judge(0, 1, lane, 0, 1), 2);
    }

    private static void lay() {
        Bounds.of(29, "CELL i of a SHEET becomes v (its lowest bits): 1.");
        WaitingWires x = Checks.told(Texts.SIX_WIRES.replace("in", "out"));
        int[] bytes = {0, 127, 256, 256 + 127, -256, Bounds.MIN, 65536, -129};
        int[] noBytes = {-1, 128, 255, -128, Bounds.MAX, 32767 + 256};
        for (int v : bytes) {
            holds(x, 0, v, true);
        }
        for (int v : noBytes) {
            holds(x, 0, v, false);
        }
        int[] shorts = {0, 128, 728, 65536, 65536 + 728, -65536, Bounds.MIN};
        int[] noShorts = {-1, 729, 32767, 32768, 65535, 65536 + 729, -32768, Bounds.MAX};
        for (int v : shorts) {
            holds(x, 1, v, true);
        }
        for (int v : noShorts) {
            holds(x, 1, v, false);
        }
        int[] ints = {0, 128, 256, 728};
        int[] noInts = {-1, 729, 65536, Bounds.MIN, Bounds.MAX, -65536};
        for (int v : ints) {
            holds(x, 2, v, true);
        }
        for (int v : noInts) {
            holds(x, 2, v, false);
        }
    }

    private static void layRefused() {
        Bounds.of(29, "BAD: k;");
        for (int k : NO_SHEET) {
            Bounds.refused(Texts.used(Texts.LATCH), "lay(" + k + ", 0, 1)", x -> x.lay(k, 0, 1), BAD);
            Bounds.due("ahead of INDEX", new WaitingWires().lay(k, -1, 1), BAD);
        }
        Bounds.of(29, "-10 less the FAULT: NULL, INDEX.");
        int[] outside = {-1, 4, 5, 64, Bounds.MIN, Bounds.MAX};
        for (int i : outside) {
            Bounds.refused(Texts.used(Texts.LATCH), "lay(0, " + i + ", 1)", x -> x.lay(0, i, 1), -12);
            Bounds.refused(Texts.used(Texts.LATCH), "lay(3, " + i + ", 1)", x -> x.lay(3, i, 1), -11);
        }
        Bounds.due("NULL of CELL 0", new WaitingWires().lay(0, 0, 1), -11);
        Bounds.terms(29, "A FAULT is what the machine finds: 1 NULL (nothing), 2 INDEX, 3 CAST (another lane), 4 SIZE (below 0).");
        WaitingWires x = new WaitingWires();
        Bounds.due("NULL", x.row(0, 0, 0, 1), -11);
        x.sheet(0, 0, 1);
        Bounds.due("INDEX", x.row(0, 0, 1, 1), -12);
        for (int lane = 0; lane < 3; lane++) {
            for (int other = 0; other < 3; other++) {
                x.sheet(0, lane, 1);
                Bounds.due("CAST of " + lane + " to " + other, x.row(0, other, 0, 0), lane == other ? NONE : -13);
            }
        }
        Bounds.due("SIZE", x.sheet(0, 0, -1), -14);
    }

    private static void row() {
        Bounds.of(30, "A row of n (0 to 64) EVENTS is judged from the first STATE on");
        WaitingWires x = Checks.told(Texts.LATCH);
        x.sheet(1, 2, 64);
        for (int i = 0; i < 64; i++) {
            x.lay(1, i, i % 4);
        }
        Bounds.due("0 EVENTS", x.row(1, 2, 0, 0), NONE);
        Bounds.due("64 EVENTS", x.row(1, 2, 0, 64), NONE);
        x.come(0);
        Bounds.due("not from where THE RUN is", x.row(1, 2, 0, 1), NONE);
        Bounds.due("THE RUN is where it was", x.run(2), 1);
        Bounds.refused(Texts.used(Texts.LATCH), "row(0, 0, 0, 4)", y -> y.row(0, 0, 0, 4), 0);
        Bounds.of(30, "the first that can not come (from 0 on; it is not READY, UNSAFE, no EVENT); NONE: all can.");
        x.lay(1, 63, 2);
        Bounds.due("the last is not READY", x.row(1, 2, 0, 64), 63);
        int[] noEvent = {4, 16, -1, Bounds.MIN, Bounds.MAX};
        for (int v : noEvent) {
            x.lay(1, 63, v);
            Bounds.due("no EVENT " + v, x.row(1, 2, 0, 64), 63);
            Bounds.due("all ahead of it can", x.row(1, 2, 0, 63), NONE);
        }
        x.lay(1, 0, 1);
        Bounds.due("the first is not READY", x.row(1, 2, 0, 64), 0);
        Bounds.tell(x, Texts.UNSAFE);
        x.sheet(1, 2, 4);
        Bounds.due("UNSAFE", x.row(1, 2, 0, 1), 0);
        x.lay(1, 0, 1);
        Bounds.due("b+, a+, then a+ is not READY", x.row(1, 2, 0, 4), 2);
        Bounds.due("b+, a+", x.row(1, 2, 0, 2), NONE);
        Bounds.due("no EVENTS at all", new WaitingWires().row(0, 0, 0, 0), -11);
    }

    private static void rowFrom() {
        Bounds.of(30, "from CELL f on of a SHEET taken as of a lane:");
        WaitingWires x = Checks.told(Texts.LATCH);
        for (int lane = 0; lane < 3; lane++) {
            x.sheet(lane, lane, 64);
            for (int i = 0; i < 64; i++) {
                x.lay(lane, i, i % 4);
            }
            Bounds.due("from 4 on", x.row(lane, lane, 4, 60), NONE);
            Bounds.due("from 60 on", x.row(lane, lane, 60, 4), NONE);
            Bounds.due("from 1 on", x.row(lane, lane, 1, 63), 0);
            Bounds.due("the last one alone", x.row(lane, lane, 63, 1), 0);
            x.lay(lane, 62, 7);
            Bounds.due("counted from f on", x.row(lane, lane, 60, 4), 2);
        }
    }

    private static void rowRefused() {
        Bounds.of(30, "BAD: k, lane, n;");
        WaitingWires x = Texts.used(Texts.LATCH).get();
        int[] noCount = {-1, 65, 66, Bounds.MIN, Bounds.MAX};
        Bounds.dueForAll("k", NO_SHEET, i -> x.row(i, 0, 0, 1), BAD);
        Bounds.dueForAll("lane", NO_LANE, i -> x.row(0, i, 0, 1), BAD);
        Bounds.dueForAll("n", noCount, i -> x.row(0, 0, 0, i), BAD);
        Bounds.dueForAll("lane ahead of NULL", NO_LANE, i -> x.row(3, i, 0, 1), BAD);
        Bounds.dueForAll("n ahead of NULL", noCount, i -> x.row(3, 0, 0, i), BAD);
        Bounds.dueForAll("n ahead of CAST", noCount, i -> x.row(0, 1, 0, i), BAD);
        Bounds.dueForAll("n ahead of INDEX", noCount, i -> x.row(0, 0, -1, i), BAD);
    }

    private static void rowFaults() {
        Bounds.of(30, "-10 less the FAULT: NULL, CAST (of n 0, too), INDEX (of any CELL ahead of all judging).");
        WaitingWires x = Texts.used(Texts.LATCH).get();
        Bounds.due("NULL", x.row(3, 0, 0, 1), -11);
        Bounds.due("NULL of n 0", x.row(3, 2, 0, 0), -11);
        Bounds.due("NULL ahead of INDEX", x.row(3, 0, -1, 1), -11);
        Bounds.due("CAST", x.row(0, 1, 0, 1), -13);
        Bounds.due("CAST of n 0", x.row(0, 2, 0, 0), -13);
        Bounds.due("CAST ahead of INDEX", x.row(0, 1, -1, 1), -13);
        int[] outside = {-1, -2, 4, 5, 64, Bounds.MIN, Bounds.MAX};
        Supplier<WaitingWires> made = Texts.used(Texts.LATCH);
        Bounds.dueForAll("INDEX", outside, i -> x.row(0, 0, i, 1), -12);
        Bounds.dueForAll("INDEX", outside, i -> x.row(0, 0, i, 64), -12);
        Bounds.dueForAll("no CELL, no INDEX", outside, i -> x.row(0, 0, i, 0), NONE);
        // CELL 0 of SHEET 0 is no EVENT, and would be judged first
        Bounds.due("the first can not come", x.row(0, 0, 0, 4), 0);
        Bounds.due("INDEX of the last", x.row(0, 0, 0, 5), -12);
        Bounds.due("INDEX of the last", x.row(0, 0, 3, 2), -12);
        Bounds.due("INDEX of the first", x.row(0, 0, -1, 5), -12);
        Bounds.refused(made, "row(0, 0, 0, 5)", y -> y.row(0, 0, 0, 5), -12);
    }

    private static void count() {
        Bounds.of(31, "How many: 0 WIRES, 1 EVENTS, 2 PLACES, 3 TOKENS at first, 4 that came in THE RUN, 5 bytes on THE TAPE, "
            + "6 CELLS of SHEET 0 (NONE: nothing).");
        WaitingWires x = new WaitingWires();
        int[] none = {0, 0, 0, 0, 0, 0, NONE};
        for (int what = 0; what < 7; what++) {
            Bounds.due("of nothing: " + what, x.count(what), none[what]);
        }
        Bounds.tell(x, Texts.SIX_WIRES);
        Bounds.due("six WIRES", x.count(0), 6);
        Bounds.tell(x, Texts.events(16));
        Bounds.due("sixteen EVENTS", x.count(1), 16);
        Bounds.due("a TOKEN", x.count(3), 1);
        x.come(0);
        Bounds.due("at first, not now", x.count(3), 1);
        Bounds.due("one came", x.count(4), 1);
        Bounds.tell(x, Texts.twentyPlaces(1));
        Bounds.due("twenty PLACES", x.count(2), 20);
        Bounds.due("twenty TOKENS", x.count(3), 20);
        Checks.put(x, Texts.filled("", 240));
        Bounds.due("240 bytes", x.count(5), 240);
        x.end(239);
        Bounds.due("239 bytes", x.count(5), 239);
        x.sheet(1, 0, 5);
        Bounds.due("SHEET 1 is another one", x.count(6), NONE);
        x.sheet(0, 0, 0);
        Bounds.due("no CELLS are not nothing", x.count(6), 0);
        x.sheet(0, 0, 64);
        Bounds.due("64 CELLS", x.count(6), 64);
        Bounds.of(31, "BAD.");
        int[] noWhat = {-1, 7, 8};
        Bounds.dueForAll("what", noWhat, x::count, BAD);
        Bounds.dueForAll("what", Bounds.FAR, x::count, BAD);
    }
}

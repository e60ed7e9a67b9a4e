/** Promises 28 to 31: sheets, cells, rows of events that are judged, counts. */
public final class SheetsTest {
    private static final int BAD = WaitingWires.BAD, STATE = WaitingWires.STATE, NONE = WaitingWires.NONE;
    private static final String LATCH = Texts.LATCH;

    public static void main(String[] args) {
        sheet();
        lay();
        row();
        rowWrong();
        count();
        Checks.finish();
    }

    private static void sheet() {
        WaitingWires x = new WaitingWires();
        Checks.due("0 cells", x.sheet(0, 0, 0), 1);
        Checks.due("count(6)", x.count(6), 0);
        Checks.due("64 cells", x.sheet(0, 2, 64), 1);
        Checks.due("count(6)", x.count(6), 64);
        Checks.due("65 cells", x.sheet(0, 2, 65), BAD);
        Checks.due("too many", x.sheet(0, 2, Integer.MAX_VALUE), BAD);
        Checks.due("-1 cells", x.sheet(0, 1, -1), -14);
        Checks.due("fewer", x.sheet(3, 1, Integer.MIN_VALUE), -14);
        Checks.due("refused: the lane stays", x.row(0, 2, 0, 0), NONE);
        Checks.due("refused: the cells stay", x.count(6), 64);
        Checks.due("refused: still nothing", x.lay(3, 0, 0), -11);
        int[] wrong = {-1, 4, Integer.MIN_VALUE, Integer.MAX_VALUE};
        for (int i : wrong) {
            Checks.due("sheet k " + i, x.sheet(i, 0, 1), BAD);
            Checks.due("sheet lane " + i, x.sheet(0, i, 1), BAD);
            Checks.due("BAD first " + i, x.sheet(i, 0, -1), BAD);
            Checks.due("BAD first " + i, x.sheet(0, i, -1), BAD);
        }
        Checks.due("lane 3", x.sheet(0, 3, 1), BAD);
    }

    /** What a cell holds is seen by the event that it is in a row. */
    private static void lay() {
        WaitingWires x = Checks.told("in a;place>a+1;");
        int[][] zero = {{0, 0}, {0, 256}, {0, -512}, {1, 65536}, {1, 0}, {2, 0}};
        int[][] other = {{0, 1}, {0, -1}, {0, 128}, {0, 255}, {1, 256}, {1, 32768}, {2, 65536}, {2, 256}, {2, Integer.MIN_VALUE}};
        for (int[] z : zero) {
            x.sheet(1, z[0], 1);
            Checks.due("lay " + z[1], x.lay(1, 0, z[1]), 1);
            Checks.due("lane " + z[0] + " has " + z[1] + " as 0", x.row(1, z[0], 0, 1), NONE);
        }
        for (int[] o : other) {
            x.sheet(1, o[0], 1);
            x.lay(1, 0, o[1]);
            Checks.due("lane " + o[0] + " has " + o[1] + " as no 0", x.row(1, o[0], 0, 1), 0);
        }
        Checks.due("a new row", x.sheet(1, 2, 1), 1);
        Checks.due("of cells 0", x.row(1, 2, 0, 1), NONE);
        // signs: a cube is never below 0
        Checks.tell(x, "out a;out b;out c;out d;out e;");
        x.sheet(0, 0, 2);
        x.lay(0, 0, 127);
        Checks.due("127 is a cube", x.judge(0, 0, 0, 0, 1), 1);
        x.lay(0, 0, 128);
        Checks.due("128 is -128 as a byte", x.judge(0, 0, 0, 0, 1), -20);
        int[] wrong = {-1, 2, Integer.MIN_VALUE, Integer.MAX_VALUE};
        for (int i : wrong) {
            Checks.due("INDEX " + i, x.lay(0, i, 1), -12);
            Checks.due("NULL ahead of INDEX " + i, x.lay(2, i, 1), -11);
        }
        x.sheet(0, 0, 0);
        Checks.due("INDEX of an empty row", x.lay(0, 0, 1), -12);
        Checks.due("k", x.lay(4, 0, 1), BAD);
        Checks.due("k", x.lay(-1, 0, 1), BAD);
    }

    private static void row() {
        WaitingWires x = Checks.told(LATCH);
        x.sheet(2, 1, 64);
        for (int i = 0; i < 64; i++) {
            x.lay(2, i, i % 4);
        }
        Checks.due("all 64", x.row(2, 1, 0, 64), NONE);
        Checks.due("from 4 on", x.row(2, 1, 4, 60), NONE);
        Checks.due("from 1 on", x.row(2, 1, 1, 3), 0);
        Checks.due("none", x.row(2, 1, 0, 0), NONE);
        x.lay(2, 5, 2);
        Checks.due("not ready", x.row(2, 1, 0, 64), 5);
        Checks.due("from 4 on", x.row(2, 1, 4, 60), 1);
        x.lay(2, 5, 4);
        Checks.due("no event", x.row(2, 1, 0, 64), 5);
        x.lay(2, 2, -1);
        Checks.due("no event below 0", x.row(2, 1, 0, 64), 2);
        Checks.due("the run has no part in it", x.come(0), 1);
        Checks.due("nor it in the run", x.row(2, 1, 0, 2), NONE);
        Checks.due("run(2)", x.run(2), 1);
        Checks.tell(x, "in a;in b;place>a+ 1;place a+>b+ 1;");
        Checks.due("unsafe", x.row(2, 1, 0, 1), 0);
        x.lay(2, 0, 1);
        x.lay(2, 1, 0);
        x.lay(2, 2, 1);
        Checks.due("safe behind b+, to the end", x.row(2, 1, 0, 4), 3);
    }

    private static void rowWrong() {
        WaitingWires x = Checks.told(LATCH);
        x.sheet(0, 0, 8);
        Checks.due("k", x.row(4, 0, 0, 1), BAD);
        Checks.due("k", x.row(-1, 0, 0, 1), BAD);
        Checks.due("lane", x.row(0, 3, 0, 1), BAD);
        Checks.due("lane", x.row(0, -1, 0, 1), BAD);
        Checks.due("n", x.row(0, 0, 0, 65), BAD);
        Checks.due("n", x.row(0, 0, 0, -1), BAD);
        Checks.due("BAD ahead of NULL", x.row(1, 0, 0, 65), BAD);
        Checks.due("NULL", x.row(1, 0, 0, 1), -11);
        Checks.due("CAST", x.row(0, 1, 0, 1), -13);
        Checks.due("CAST", x.row(0, 2, 0, 0), -13);
        Checks.due("CAST ahead of INDEX", x.row(0, 2, 9, 1), -13);
        Checks.due("INDEX behind all", x.row(0, 0, 0, 9), -12);
        Checks.due("INDEX ahead of all judging", x.row(0, 0, 1, 8), -12);
        Checks.due("all eight", x.row(0, 0, 0, 8), 1);
        int[] wrong = {-1, 8, Integer.MIN_VALUE, Integer.MAX_VALUE, Integer.MAX_VALUE - 1};
        for (int f : wrong) {
            Checks.due("INDEX " + f, x.row(0, 0, f, 2), -12);
            Checks.due("no cell " + f, x.row(0, 0, f, 0), NONE);
        }
    }

    private static void count() {
        WaitingWires x = Checks.told("in c;in d;" + LATCH);
        x.come(0);
        x.come(1);
        x.feed(0);
        x.sheet(0, 1, 17);
        int[] due = {4, 4, 4, 1, 2, 8, 17};
        for (int what = 0; what < 7; what++) {
            Checks.due("count(" + what + ")", x.count(what), due[what]);
        }
        int[] wrong = {-1, 7, Integer.MIN_VALUE, Integer.MAX_VALUE};
        for (int what : wrong) {
            Checks.due("count(" + what + ")", x.count(what), BAD);
        }
        x.end(0);
        Checks.tell(x, "in a;place>a+1;place>a-1;place>a+0;");
        Checks.due("tokens", x.count(3), 2);
        Checks.due("sheets stay", x.count(6), 17);
        Checks.due("constants", WaitingWires.BAD * 10000 + STATE * 1000 + WaitingWires.FULL * 100 + NONE * 10 + WaitingWires.SPENT, -12346);
    }
}

import java.lang.management.ManagementFactory;

/** All calls of a run share one room: what is made is made by the constructor, the calls make nothing. */
public final class RoomTest {
    public static void main(String[] args) {
        com.sun.management.ThreadMXBean threads = (com.sun.management.ThreadMXBean) ManagementFactory.getThreadMXBean();
        long thread = Thread.currentThread().getId();
        long[] words = words("in a;in b;out c;inner d;place d->a+ 1;place d->b+ 1;place a+>c+ 0;place b+>c+ 0;place c+>d+ 0;"
            + "place d+>a- 0;place d+>b- 0;place a->c- 0;place b->c- 0;place c->d- 0;");
        int sum = run(new WaitingWires(), words);
        long before = threads.getThreadAllocatedBytes(thread);
        WaitingWires x = new WaitingWires();
        long made = threads.getThreadAllocatedBytes(thread) - before;
        before = threads.getThreadAllocatedBytes(thread);
        sum += run(x, words);
        long calls = threads.getThreadAllocatedBytes(thread) - before;
        System.out.println("an object takes " + made + " bytes, its calls " + calls + " (" + sum + ")");
        Checks.due("an object is small", made < 200_000 ? 1 : 0, 1);
        Checks.due("the calls make nothing to speak of", calls < 2_000 ? 1 : 0, 1);
        Checks.finish();
    }

    private static long[] words(String text) {
        byte[] bytes = Checks.bytes(text);
        long[] words = new long[(bytes.length + 7) / 8];
        for (int i = 0; i < words.length; i++) {
            words[i] = Checks.eight(bytes, 8 * i);
        }
        return words;
    }

    private static int run(WaitingWires x, long[] words) {
        int sum = 0;
        for (int round = 0; round < 8; round++) {
            for (long word : words) {
                sum += x.feed(word);
            }
            sum += x.text() + x.states() + x.right() + x.cost() + x.cures(0) + x.cures(1) + x.would(0, 1);
            sum += x.sheet(round % 4, 1, 30) + x.lay(round % 4, 3, 5) + x.judge(2, round % 4, 1, 0, 9) + x.row(0, 1, 0, 9);
            for (int i = 0; i < 4; i++) {
                sum += x.of(i, i) + x.quarrels(i) + x.back(i) + x.stuck(i) + x.beat(i) + x.makes(2, 10 + i) + x.time(i, 50);
            }
            sum += x.cure(0, 3) + x.cost() + x.come(0) + x.undo() + x.delay(0, 5) + x.beat(0);
        }
        return sum;
    }
}

import java.util.ArrayDeque;
import java.util.ArrayList;
import java.util.Deque;
import java.util.List;

/**
 * All that can be seen of an object, as one row of answers. (That takes more calls than the document
 * promises an object; the class does not count them.)
 */
final class Look {
    private final WaitingWires x;
    private final List<Integer> seen = new ArrayList<>();

    private Look(WaitingWires x) {
        this.x = x;
    }

    /** The object is left as it was. */
    static List<Integer> at(WaitingWires x) {
        Look look = new Look(x);
        look.lookAtNet();
        look.lookAtStates();
        look.lookAtWires();
        look.lookAtEvents();
        look.lookAtRun();
        for (int k = 0; k < 4; k++) {
            look.lookAtSheet(k);
        }
        return look.seen;
    }

    /** What the tape tells: the net that was there is gone then. */
    static List<Integer> atTape(WaitingWires x) {
        int bytes = x.count(5);
        int answer = x.text();
        List<Integer> seen = at(x);
        seen.add(bytes);
        seen.add(answer);
        return seen;
    }

    private void lookAtNet() {
        seen.add(x.fault());
        for (int what = 0; what < 7; what++) {
            seen.add(x.count(what));
        }
        for (int p = 0; p < x.count(2); p++) {
            for (int what = 0; what < 3; what++) {
                seen.add(x.place(p, what));
            }
        }
    }

    private void lookAtStates() {
        seen.add(x.states());
        seen.add(x.right());
        for (int s = 0; s < x.states(); s++) {
            for (int what = 0; what < 10 + x.count(1); what++) {
                seen.add(x.of(s, what));
            }
        }
        for (int what = 0; what < 4; what++) {
            seen.add(x.quarrels(what));
            seen.add(x.back(what));
            seen.add(x.stuck(what));
            seen.add(x.beat(what));
        }
        seen.add(x.cost());
        seen.add(x.cures(0));
        seen.add(x.cures(1));
    }

    private void lookAtWires() {
        for (int w = 0; w < x.count(0); w++) {
            for (int what = 0; what < 3; what++) {
                seen.add(x.wire(w, what));
            }
            for (int levels = 0; levels < 1 << x.count(0); levels++) {
                seen.add(x.aim(w, levels));
            }
            for (int what = 0; what < 11 + Math.max(0, x.makes(w, 0)); what++) {
                seen.add(x.makes(w, what));
            }
        }
    }

    private void lookAtEvents() {
        for (int e = 0; e < x.count(1); e++) {
            for (int what = 0; what < 6; what++) {
                seen.add(x.event(e, what));
            }
            for (int k = 1; k <= 50; k += 7) {
                seen.add(x.time(e, k));
            }
        }
    }

    /** What came is seen by taking it back; then it comes again. */
    private void lookAtRun() {
        Deque<Integer> came = new ArrayDeque<>();
        for (int what = 0; what < 4; what++) {
            seen.add(x.run(what));
        }
        while (x.run(3) >= 0) {
            came.push(x.run(3));
            seen.add(x.run(0));
            x.undo();
        }
        seen.addAll(came);
        while (!came.isEmpty()) {
            x.come(came.pop());
        }
    }

    /** Its lane, its length, and of each cell whether it is a cube and an event that can come first. */
    private void lookAtSheet(int k) {
        for (int lane = 0; lane < 3; lane++) {
            for (int i = 0; i < 65; i++) {
                seen.add(x.row(k, lane, i, 1));
                seen.add(x.judge(x.count(0) - 1, k, lane, i, 1));
            }
        }
    }
}

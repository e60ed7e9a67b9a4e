import java.util.function.Supplier;

/** Texts that several tests tell, and objects that have something of everything. */
final class Texts {
    /** a and b in a ring of four. */
    static final String LATCH = "in a;out b;place a+>b+ 0;place b+>a- 0;place a->b- 0;place b->a+ 1;";
    /** c rises when both a and b rose, falls when both fell. */
    static final String MEET = "in a;in b;out c;place c->a+ 1;place c->b+ 1;place a+>c+ 0;place b+>c+ 0;"
        + "place c+>a- 0;place c+>b- 0;place a->c- 0;place b->c- 0;";
    /** States 0 and 4 are alike; in the second one c rises. */
    static final String QUARREL = "in a;out b;out c;place a+>b+ 0;place b+>a- 0;place a->b- 0;place b->c+ 0;"
        + "place c+>c- 0;place c->a+ 1;";
    /** a+ takes b+ back. */
    static final String FORK = "in a;out b;out c;place c->a+ b+ 1;place a+>a- 0;place b+>b- 0;place a- b->c+ 0;"
        + "place c+>c- 0;";
    /** It has a state, but no levels. */
    static final String NOT_RIGHT = "out a;place a+>a+ a- 1;";
    /** a+ is unsafe as long as b+ did not come. */
    static final String UNSAFE = "in a;out b;place>a+ 1;place a+>b+ 1;";
    /** Two chains of four events, three events by themselves: 5 * 5 * 2 * 2 * 2 states. */
    static final String TWO_HUNDRED = "in a;in b;in c;in d;in e;in f;place>a+1;place a+>b+0;place b+>a-0;place a->b-0;"
        + "place>c+1;place c+>d+0;place d+>c-0;place c->d-0;place>e+1;place>e-1;place>f+1;";
    /** The same, and one event more behind all of them. */
    static final String ONE_STATE_MORE = TWO_HUNDRED
        + "place b->f-0;place d->f-0;place e+>f-0;place e->f-0;place f+>f-0;";
    /** Two chains of four events, one of seven: 5 * 5 * 8 states, with levels. */
    static final String RIGHT_TWO_HUNDRED = "in a;in b;in c;in d;in e;in f;place>a+1;place a+>b+0;place b+>a-0;place a->b-0;"
        + "place>c+1;place c+>d+0;place d+>c-0;place c->d-0;place>e+1;place e+>f+0;place f+>e-0;place e->f-0;"
        + "place f->e+/1 0;place e+/1>f+/1 0;place f+/1>e-/1 0;";
    static final String SIX_WIRES = "in a;in b;in c;in d;in e;in f;";

    private Texts() { }

    /** A net that was told, with delays, a run, three sheets and bytes on the tape. */
    static Supplier<WaitingWires> used(String text) {
        return () -> {
            WaitingWires x = Checks.told(text);
            for (int e = 0; e < x.count(1); e++) {
                x.delay(e, 1 + e % 3);
            }
            for (int i = 0; i < 3; i++) {
                x.come(Integer.numberOfTrailingZeros(x.run(1)));
            }
            for (int k = 0; k < 3; k++) {
                x.sheet(k, k, 4 + 30 * k);
                for (int i = 0; i < 4 + 30 * k; i++) {
                    x.lay(k, i, i * i % 11 - 1);
                }
            }
            x.feed(Checks.eight(Checks.bytes("out z;"), 0));
            x.feed(Checks.eight(Checks.bytes("in y;"), 0));
            return x;
        };
    }

    /** Event 0 comes; n events in all. */
    static String events(int n) {
        StringBuilder s = new StringBuilder("out a;place>a+1;place>");
        for (int i = 1; i < n; i++) {
            s.append(i < 8 ? "a+/" : "a-/").append(i % 8).append(' ');
        }
        return s.append("0;").toString();
    }

    /** All that a place can have on one side, five signs each. */
    static String sixteenEvents() {
        StringBuilder s = new StringBuilder();
        for (int i = 0; i < 16; i++) {
            s.append(i % 2 == 0 ? "a+/" : "a-/").append(i / 2).append(' ');
        }
        return s.toString();
    }

    /** a+ comes, and a- behind it as long as there are two places; n places in all. */
    static String places(int n) {
        StringBuilder s = new StringBuilder("out a;place a->a+1;place a+>a-0;");
        for (int p = 2; p < n; p++) {
            s.append("place>a-0;");
        }
        return s.toString();
    }

    /** a+ takes from as many places as there can be. */
    static String twentyPlaces(int tokens) {
        StringBuilder s = new StringBuilder("in a;");
        for (int p = 0; p < 20; p++) {
            s.append("place>a+").append(tokens).append(';');
        }
        return s.toString();
    }

    /** A text, and blanks behind it up to a length. */
    static String filled(String text, int length) {
        StringBuilder s = new StringBuilder(text);
        while (s.length() < length) {
            s.append(' ');
        }
        return s.toString();
    }
}

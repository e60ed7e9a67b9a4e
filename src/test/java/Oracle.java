import java.util.ArrayDeque;
import java.util.ArrayList;
import java.util.Arrays;
import java.util.HashMap;
import java.util.LinkedHashMap;
import java.util.List;
import java.util.Map;
import java.util.TreeSet;

/**
 * The document once more, in the plainest way and with the whole library, as slow as it likes: what
 * the class answers is held against it. It shares no code and, where it can, no method with it.
 */
final class Oracle {
    static final int BAD = -1, STATE = -2, FULL = -3, NONE = -4, SPENT = -6;

    /** A wire that rises or falls, with an index. */
    static final class Event {
        final int wire, index;
        final boolean rises;
        int delay = 1;

        Event(int wire, boolean rises, int index) {
            this.wire = wire;
            this.rises = rises;
            this.index = index;
        }
    }

    static final class Place {
        final TreeSet<Integer> from = new TreeSet<>();
        final TreeSet<Integer> to = new TreeSet<>();
        boolean token;
    }

    static final class Net {
        final List<int[]> wires = new ArrayList<>();
        final List<Event> events = new ArrayList<>();
        final List<Place> places = new ArrayList<>();

        Net copy() {
            Net n = new Net();
            n.wires.addAll(wires);
            for (Event e : events) {
                Event f = new Event(e.wire, e.rises, e.index);
                f.delay = e.delay;
                n.events.add(f);
            }
            for (Place p : places) {
                Place q = new Place();
                q.from.addAll(p.from);
                q.to.addAll(p.to);
                q.token = p.token;
                n.places.add(q);
            }
            return n;
        }

        TreeSet<Integer> first() {
            TreeSet<Integer> m = new TreeSet<>();
            for (int p = 0; p < places.size(); p++) {
                if (places.get(p).token) {
                    m.add(p);
                }
            }
            return m;
        }

        List<Integer> takes(int e) {
            List<Integer> l = new ArrayList<>();
            for (int p = 0; p < places.size(); p++) {
                if (places.get(p).to.contains(e)) {
                    l.add(p);
                }
            }
            return l;
        }

        List<Integer> feeds(int e) {
            List<Integer> l = new ArrayList<>();
            for (int p = 0; p < places.size(); p++) {
                if (places.get(p).from.contains(e)) {
                    l.add(p);
                }
            }
            return l;
        }

        boolean ready(TreeSet<Integer> m, int e) {
            List<Integer> t = takes(e);
            return !t.isEmpty() && m.containsAll(t);
        }

        /** Null, if it is unsafe. */
        TreeSet<Integer> fire(TreeSet<Integer> m, int e) {
            TreeSet<Integer> n = new TreeSet<>(m);
            n.removeAll(takes(e));
            for (int p : feeds(e)) {
                if (!n.add(p)) {
                    return null;
                }
            }
            return n;
        }

        boolean full() {
            return wires.size() + 1 > 6 || events.size() + 2 > 16 || places.size() + 2 > 20;
        }

        void cure(int e, int f) {
            int letter = 0;
            boolean again = true;
            while (again) {
                again = false;
                for (int[] w : wires) {
                    if (w[0] == letter) {
                        again = true;
                    }
                }
                if (again) {
                    letter++;
                }
            }
            wires.add(new int[] {letter, 2});
            events.add(new Event(wires.size() - 1, true, 0));
            events.add(new Event(wires.size() - 1, false, 0));
            int rise = events.size() - 2;
            int[][] pairs = {{e, rise}, {f, rise + 1}};
            for (int[] pair : pairs) {
                for (Place p : places) {
                    if (p.from.remove(pair[0])) {
                        p.from.add(pair[1]);
                    }
                }
                Place p = new Place();
                p.from.add(pair[0]);
                p.to.add(pair[1]);
                places.add(p);
            }
        }
    }

    /** All that is found of a net. */
    static final class Found {
        int outcome;
        final List<TreeSet<Integer>> states = new ArrayList<>();
        final List<Map<Integer, Integer>> next = new ArrayList<>();
        boolean right;
        int[] levels;
        int alike, quarrels, less = NONE, greater = NONE;
        int backs;
        int[] back = {NONE, NONE, NONE};

        Found(Net net) {
            explore(net);
            if (outcome == 0) {
                levels = new int[states.size()];
                right = true;
                for (int w = 0; w < net.wires.size() && right; w++) {
                    right = level(net, w);
                }
            }
            if (right) {
                clashes(net);
            }
        }

        private void explore(Net net) {
            LinkedHashMap<TreeSet<Integer>, Integer> seen = new LinkedHashMap<>();
            seen.put(net.first(), 0);
            states.add(net.first());
            for (int s = 0; s < states.size(); s++) {
                Map<Integer, Integer> edges = new HashMap<>();
                for (int e = 0; e < net.events.size(); e++) {
                    if (!net.ready(states.get(s), e)) {
                        continue;
                    }
                    TreeSet<Integer> m = net.fire(states.get(s), e);
                    if (m == null) {
                        outcome = STATE;
                        return;
                    }
                    if (!seen.containsKey(m)) {
                        if (states.size() == 200) {
                            outcome = SPENT;
                            return;
                        }
                        seen.put(m, states.size());
                        states.add(m);
                    }
                    edges.put(e, seen.get(m));
                }
                next.add(edges);
            }
        }

        /** Tries both levels of the first state, spreads them, and looks whether all agree. */
        private boolean level(Net net, int w) {
            boolean any = false;
            for (Map<Integer, Integer> edges : next) {
                for (int e : edges.keySet()) {
                    any |= net.events.get(e).wire == w;
                }
            }
            if (!any) {
                return true;
            }
            for (int first = 0; first < 2; first++) {
                int[] l = new int[states.size()];
                Arrays.fill(l, -1);
                l[0] = first;
                ArrayDeque<Integer> todo = new ArrayDeque<>();
                todo.add(0);
                boolean good = true;
                while (!todo.isEmpty()) {
                    int s = todo.poll();
                    for (Map.Entry<Integer, Integer> edge : next.get(s).entrySet()) {
                        Event e = net.events.get(edge.getKey());
                        int behind = l[s];
                        if (e.wire == w) {
                            good &= l[s] == (e.rises ? 0 : 1);
                            behind = e.rises ? 1 : 0;
                        }
                        int t = edge.getValue();
                        if (l[t] < 0) {
                            l[t] = behind;
                            todo.add(t);
                        }
                        good &= l[t] == behind;
                    }
                }
                if (good) {
                    for (int s = 0; s < l.length; s++) {
                        levels[s] |= l[s] << w;
                    }
                    return true;
                }
            }
            return false;
        }

        boolean excited(Net net, int s, int w) {
            for (int e : next.get(s).keySet()) {
                if (net.events.get(e).wire == w) {
                    return true;
                }
            }
            return false;
        }

        int aim(Net net, int s, int w) {
            int level = levels[s] >> w & 1;
            return excited(net, s, w) ? 1 - level : level;
        }

        private void clashes(Net net) {
            for (int s = 0; s < states.size(); s++) {
                for (int t = s + 1; t < states.size(); t++) {
                    if (levels[s] != levels[t]) {
                        continue;
                    }
                    alike++;
                    boolean unlike = false;
                    for (int w = 0; w < net.wires.size(); w++) {
                        unlike |= net.wires.get(w)[1] != 0 && aim(net, s, w) != aim(net, t, w);
                    }
                    if (unlike) {
                        if (quarrels == 0) {
                            less = s;
                            greater = t;
                        }
                        quarrels++;
                    }
                }
            }
            for (int s = 0; s < states.size(); s++) {
                for (int e = 0; e < net.events.size(); e++) {
                    int w = net.events.get(e).wire;
                    if (!next.get(s).containsKey(e) || net.wires.get(w)[1] == 0) {
                        continue;
                    }
                    for (int f = 0; f < net.events.size(); f++) {
                        if (!next.get(s).containsKey(f) || net.events.get(f).wire == w) {
                            continue;
                        }
                        if (!excited(net, next.get(s).get(f), w)) {
                            if (backs == 0) {
                                back = new int[] {s, e, f};
                            }
                            backs++;
                        }
                    }
                }
            }
        }
    }

    /** A text that is not taken. */
    static final class Refused extends RuntimeException {
        private static final long serialVersionUID = 1L;

        final int fault, place;

        Refused(int fault, int place) {
            super("fault " + fault + " at " + place, null, false, false);
            this.fault = fault;
            this.place = place;
        }
    }

    private String tape = "";
    private int fault;
    private Net net = new Net();
    private Found found = new Found(net);
    private final List<Integer> run = new ArrayList<>();
    private final int[] lanes = new int[4];
    private final int[][] sheets = new int[4][];

    // ---- the net

    int feed(long v) {
        if (tape.length() + 8 > 240) {
            return FULL;
        }
        for (int i = 7; i >= 0; i--) {
            tape += (char) (v >>> 8 * i & 255);
        }
        return tape.length();
    }

    int end(int n) {
        if (n < 0 || n > tape.length()) {
            return BAD;
        }
        int had = tape.length();
        tape = tape.substring(0, n);
        return had;
    }

    int text() {
        String all = tape;
        tape = "";
        try {
            Net told = new Parser(all).all();
            fault = 0;
            change(told);
            return net.places.size();
        } catch (Refused r) {
            fault = r.fault;
            return -10 - r.place;
        }
    }

    private void change(Net other) {
        net = other;
        found = new Found(net);
        run.clear();
    }

    static final class Parser {
        final String all;
        int pos;
        String token;
        int at;
        final Net n = new Net();

        Parser(String all) {
            this.all = all;
            read();
        }

        void read() {
            while (pos < all.length() && all.charAt(pos) == ' ') {
                pos++;
            }
            at = pos;
            if (pos == all.length()) {
                token = "";
                return;
            }
            String rest = all.substring(pos);
            token = rest.replaceAll("(?s)^([a-z]+|[0-9]+|[-+/>;]|.).*$", "$1");
            if (!token.matches("[a-z]+|[0-9]|[-+/>;]")) {
                throw new Refused(1, at);
            }
            pos += token.length();
        }

        void need(String pattern) {
            if (!token.matches(pattern)) {
                throw new Refused(2, at);
            }
        }

        Net all() {
            while (!token.isEmpty()) {
                need("in|out|inner|place");
                if (token.equals("place")) {
                    place();
                } else {
                    wire(Arrays.asList("in", "out", "inner").indexOf(token));
                }
                need(";");
                read();
            }
            return n;
        }

        int wireNamed(String letter) {
            for (int w = 0; w < n.wires.size(); w++) {
                if (n.wires.get(w)[0] == letter.charAt(0) - 'a') {
                    return w;
                }
            }
            return -1;
        }

        void wire(int kind) {
            if (n.wires.size() == 6) {
                throw new Refused(6, at);
            }
            read();
            need("[a-z]");
            if (wireNamed(token) >= 0) {
                throw new Refused(4, at);
            }
            n.wires.add(new int[] {token.charAt(0) - 'a', kind});
            read();
        }

        void place() {
            if (n.places.size() == 20) {
                throw new Refused(6, at);
            }
            read();
            Place p = new Place();
            while (!token.equals(">")) {
                need("[a-z]|>");
                event(p.from);
            }
            read();
            do {
                need("[a-z]");
                event(p.to);
            } while (token.matches("[a-z]"));
            need("[0-9]");
            if (token.charAt(0) > '1') {
                throw new Refused(3, at);
            }
            p.token = token.equals("1");
            n.places.add(p);
            read();
        }

        void event(TreeSet<Integer> side) {
            int letterAt = at;
            int w = wireNamed(token);
            if (w < 0) {
                throw new Refused(4, at);
            }
            read();
            need("[-+]");
            boolean rises = token.equals("+");
            read();
            int index = 0;
            if (token.equals("/")) {
                read();
                need("[0-9]");
                index = token.charAt(0) - '0';
                read();
            }
            int e = 0;
            while (e < n.events.size() && !(n.events.get(e).wire == w && n.events.get(e).rises == rises
                    && n.events.get(e).index == index)) {
                e++;
            }
            if (e == n.events.size()) {
                if (e == 16) {
                    throw new Refused(6, letterAt);
                }
                n.events.add(new Event(w, rises, index));
            }
            if (!side.add(e)) {
                throw new Refused(5, letterAt);
            }
        }
    }

    int fault() {
        return fault;
    }

    private static int bits(Iterable<Integer> of) {
        int b = 0;
        for (int i : of) {
            b |= 1 << i;
        }
        return b;
    }

    private boolean noWire(int w) {
        return w < 0 || w >= net.wires.size();
    }

    private boolean noEvent(int e) {
        return e < 0 || e >= net.events.size();
    }

    int wire(int w, int what) {
        if (noWire(w) || what < 0 || what > 2) {
            return BAD;
        }
        if (what < 2) {
            return net.wires.get(w)[what];
        }
        return (int) net.events.stream().filter(e -> e.wire == w).count();
    }

    int event(int e, int what) {
        if (noEvent(e) || what < 0 || what > 5) {
            return BAD;
        }
        Event x = net.events.get(e);
        return new int[] {x.wire, x.rises ? 1 : 0, x.index, bits(net.takes(e)), bits(net.feeds(e)), x.delay}[what];
    }

    int place(int p, int what) {
        if (p < 0 || p >= net.places.size() || what < 0 || what > 2) {
            return BAD;
        }
        Place x = net.places.get(p);
        return new int[] {bits(x.from), bits(x.to), x.token ? 1 : 0}[what];
    }

    // ---- states

    int states() {
        return found.outcome != 0 ? found.outcome : found.states.size();
    }

    int right() {
        return found.right ? 1 : 0;
    }

    int of(int s, int what) {
        if (found.outcome != 0 || s < 0 || s >= found.states.size()) {
            return BAD;
        }
        if (what < 0 || what > 4 && what < 10 || what >= 10 && noEvent(what - 10)) {
            return BAD;
        }
        if (what == 0) {
            return bits(found.states.get(s));
        }
        if (what == 1) {
            return bits(found.next.get(s).keySet());
        }
        if (what >= 10) {
            return found.next.get(s).getOrDefault(what - 10, NONE);
        }
        if (!found.right) {
            return STATE;
        }
        if (what == 2) {
            return found.levels[s];
        }
        int b = 0;
        for (int w = 0; w < net.wires.size(); w++) {
            if (what == 3 ? found.excited(net, s, w) : found.aim(net, s, w) == 1) {
                b |= 1 << w;
            }
        }
        return b;
    }

    int quarrels(int what) {
        if (what < 0 || what > 3) {
            return BAD;
        }
        return !found.right ? STATE : new int[] {found.alike, found.quarrels, found.less, found.greater}[what];
    }

    int back(int what) {
        if (what < 0 || what > 3) {
            return BAD;
        }
        return !found.right ? STATE : what == 0 ? found.backs : found.back[what - 1];
    }

    int stuck(int what) {
        if (what < 0 || what > 2) {
            return BAD;
        }
        if (found.outcome != 0) {
            return STATE;
        }
        if (what == 0) {
            return (int) found.next.stream().filter(Map::isEmpty).count();
        }
        if (what == 2) {
            TreeSet<Integer> came = new TreeSet<>();
            found.next.forEach(m -> came.addAll(m.keySet()));
            return net.events.size() - came.size();
        }
        int lost = 0;
        for (int s = 0; s < found.states.size(); s++) {
            TreeSet<Integer> seen = new TreeSet<>(List.of(s));
            ArrayDeque<Integer> todo = new ArrayDeque<>(seen);
            while (!todo.isEmpty()) {
                for (int t : found.next.get(todo.poll()).values()) {
                    if (seen.add(t)) {
                        todo.add(t);
                    }
                }
            }
            lost += seen.contains(0) ? 0 : 1;
        }
        return lost;
    }

    // ---- what makes a wire

    /** The levels of states where the wire's aim is as wanted. */
    private TreeSet<Integer> aimed(int w, int wanted) {
        TreeSet<Integer> set = new TreeSet<>();
        for (int s = 0; s < found.states.size(); s++) {
            if (found.aim(net, s, w) == wanted) {
                set.add(found.levels[s]);
            }
        }
        return set;
    }

    int aim(int w, int levels) {
        if (noWire(w) || levels < 0 || levels > (1 << net.wires.size()) - 1) {
            return BAD;
        }
        if (!found.right) {
            return STATE;
        }
        boolean one = aimed(w, 1).contains(levels);
        boolean zero = aimed(w, 0).contains(levels);
        return one && zero ? -5 : one ? 1 : zero ? 0 : NONE;
    }

    private boolean unlike(int w) {
        TreeSet<Integer> both = aimed(w, 1);
        both.retainAll(aimed(w, 0));
        return !both.isEmpty();
    }

    private boolean has(int cube, int levels) {
        for (int w = 0; w < net.wires.size(); w++) {
            int figure = cube / (int) Math.pow(3, w) % 3;
            if (figure != 2 && figure != (levels >> w & 1)) {
                return false;
            }
        }
        return true;
    }

    private int letters(int cube) {
        int n = 0;
        for (int w = 0; w < net.wires.size(); w++) {
            n += cube / (int) Math.pow(3, w) % 3 == 2 ? 0 : 1;
        }
        return n;
    }

    private int cubes() {
        return (int) Math.pow(3, net.wires.size());
    }

    /** Whether a wire has so many levels with aim 1 that this one would take too long. */
    boolean tooDear(int w) {
        return !noWire(w) && found.right && aimed(w, 1).size() > 16;
    }

    /** The least cover by way of the least cost of every subset of the levels with aim 1. */
    private List<Integer> sum(int w) {
        List<Integer> on = new ArrayList<>(aimed(w, 1));
        TreeSet<Integer> off = aimed(w, 0);
        List<int[]> usable = new ArrayList<>();
        for (int c = 0; c < cubes(); c++) {
            int covers = 0;
            for (int i = 0; i < on.size(); i++) {
                covers |= has(c, on.get(i)) ? 1 << i : 0;
            }
            boolean bad = false;
            for (int l : off) {
                bad |= has(c, l);
            }
            if (!bad && covers != 0) {
                usable.add(new int[] {c, covers, 1000 + letters(c)});
            }
        }
        int[] least = new int[1 << on.size()];
        for (int set = 1; set < least.length; set++) {
            int lowest = set & -set;
            least[set] = Integer.MAX_VALUE;
            for (int[] u : usable) {
                if ((u[1] & lowest) != 0) {
                    least[set] = Math.min(least[set], u[2] + least[set & ~u[1]]);
                }
            }
        }
        List<Integer> taken = new ArrayList<>();
        int set = least.length - 1;
        while (set != 0) {
            for (int[] u : usable) {
                if ((u[1] & set & -set) != 0 && u[2] + least[set & ~u[1]] == least[set]) {
                    taken.add(u[0]);
                    set &= ~u[1];
                    break;
                }
            }
        }
        return taken;
    }

    private boolean noMade(int w) {
        return noWire(w) || net.wires.get(w)[1] == 0;
    }

    int makes(int w, int what) {
        if (noMade(w) || what < 0 || what > 1 && what < 10) {
            return BAD;
        }
        if (!found.right || unlike(w)) {
            return STATE;
        }
        List<Integer> sum = sum(w);
        if (what == 0) {
            return sum.size();
        }
        if (what == 1) {
            return sum.stream().mapToInt(this::letters).sum();
        }
        return what - 10 < sum.size() ? sum.get(what - 10) : NONE;
    }

    int judge(int w, int k, int lane, int f, int n) {
        if (noMade(w) || k < 0 || k > 3 || lane < 0 || lane > 2 || n < 0 || n > 30) {
            return BAD;
        }
        if (!found.right || unlike(w)) {
            return STATE;
        }
        if (sheets[k] == null) {
            return -11;
        }
        if (lanes[k] != lane) {
            return -13;
        }
        List<Integer> cubes = new ArrayList<>();
        for (long i = 0; i < n; i++) {
            if (f + i < 0 || f + i >= sheets[k].length) {
                return -12;
            }
            int c = sheets[k][(int) (f + i)];
            if (c < 0 || c >= cubes()) {
                return (int) (-20 - i);
            }
            cubes.add(c);
        }
        for (int l : aimed(w, 0)) {
            if (cubes.stream().anyMatch(c -> has(c, l))) {
                return 2;
            }
        }
        for (int l : aimed(w, 1)) {
            if (cubes.stream().noneMatch(c -> has(c, l))) {
                return 0;
            }
        }
        return 1;
    }

    int cost() {
        if (!found.right || found.quarrels > 0) {
            return STATE;
        }
        int all = 0;
        for (int w = 0; w < net.wires.size(); w++) {
            all += noMade(w) ? 0 : makes(w, 1);
        }
        return all;
    }

    // ---- cures

    private int noCure(int e, int f) {
        if (noEvent(e) || noEvent(f) || e == f) {
            return BAD;
        }
        return !found.right ? STATE : net.full() ? FULL : 0;
    }

    int would(int e, int f) {
        if (noCure(e, f) != 0) {
            return noCure(e, f);
        }
        Net other = net.copy();
        other.cure(e, f);
        Found then = new Found(other);
        return !then.right ? -10 : then.backs > 0 ? -11 : then.quarrels;
    }

    int cure(int e, int f) {
        if (noCure(e, f) != 0) {
            return noCure(e, f);
        }
        Net other = net.copy();
        other.cure(e, f);
        change(other);
        return net.wires.size() - 1;
    }

    int cures(int what) {
        if (what < 0 || what > 1) {
            return BAD;
        }
        if (!found.right) {
            return STATE;
        }
        if (net.full()) {
            return FULL;
        }
        int first = NONE;
        int all = 0;
        for (int e = 0; e < net.events.size(); e++) {
            for (int f = 0; f < net.events.size(); f++) {
                if (e != f && would(e, f) == 0) {
                    first = all == 0 ? 100 * e + f : first;
                    all++;
                }
            }
        }
        return what == 0 ? first : all;
    }

    // ---- delays

    int delay(int e, int v) {
        if (noEvent(e) || v < 1 || v > 20) {
            return BAD;
        }
        int was = net.events.get(e).delay;
        net.events.get(e).delay = v;
        return was;
    }

    /** All rings of events, one by one: delays, tokens, events (bits). Null: a place is not as told. */
    private List<int[]> rings() {
        for (Place p : net.places) {
            if (p.from.size() != 1 || p.to.size() != 1) {
                return null;
            }
        }
        List<int[]> rings = new ArrayList<>();
        for (int e = 0; e < net.events.size(); e++) {
            walk(e, e, 0, 0, 0, rings);
        }
        return rings;
    }

    private void walk(int start, int now, int been, int delays, int tokens, List<int[]> rings) {
        int with = been | 1 << now;
        int sum = delays + net.events.get(now).delay;
        for (int p : net.feeds(now)) {
            int to = net.places.get(p).to.first();
            int t = tokens + (net.places.get(p).token ? 1 : 0);
            if (to == start) {
                rings.add(new int[] {sum, t, with});
            } else if (to > start && (with >> to & 1) == 0) {
                walk(start, to, with, sum, t, rings);
            }
        }
    }

    int beat(int what) {
        if (what < 0 || what > 2) {
            return BAD;
        }
        List<int[]> rings = rings();
        if (rings == null || rings.stream().anyMatch(r -> r[1] == 0)) {
            return STATE;
        }
        if (rings.isEmpty()) {
            return NONE;
        }
        int[] best = rings.get(0);
        for (int[] r : rings) {
            best = r[0] * best[1] > best[0] * r[1] ? r : best;
        }
        int on = 0;
        for (int[] r : rings) {
            on |= r[0] * best[1] == best[0] * r[1] ? r[2] : 0;
        }
        int divisor = java.math.BigInteger.valueOf(best[0]).gcd(java.math.BigInteger.valueOf(best[1])).intValue();
        return what == 2 ? on : best[what] / divisor;
    }

    /** Tokens lie in each place as the times from which they are there; events take what lies first. */
    int time(int e, int k) {
        if (noEvent(e) || k < 1 || k > 50) {
            return BAD;
        }
        List<int[]> rings = rings();
        if (rings == null || rings.stream().anyMatch(r -> r[1] == 0)) {
            return STATE;
        }
        List<ArrayDeque<Integer>> lie = new ArrayList<>();
        for (Place p : net.places) {
            lie.add(new ArrayDeque<>(p.token ? List.of(0) : List.of()));
        }
        int[] times = new int[net.events.size()];
        boolean more = true;
        while (more) {
            more = false;
            for (int x = 0; x < times.length; x++) {
                List<Integer> takes = net.takes(x);
                if (times[x] >= 60 || takes.isEmpty() || takes.stream().anyMatch(p -> lie.get(p).isEmpty())) {
                    continue;
                }
                int begin = 0;
                for (int p : takes) {
                    begin = Math.max(begin, lie.get(p).poll());
                }
                int ends = begin + net.events.get(x).delay;
                for (int p : net.feeds(x)) {
                    lie.get(p).add(ends);
                }
                times[x]++;
                more = true;
                if (x == e && times[x] == k) {
                    return ends;
                }
            }
        }
        return NONE;
    }

    // ---- the run

    private TreeSet<Integer> marking() {
        TreeSet<Integer> m = net.first();
        for (int e : run) {
            m = net.fire(m, e);
        }
        return m;
    }

    int come(int e) {
        if (noEvent(e)) {
            return BAD;
        }
        if (!net.ready(marking(), e) || net.fire(marking(), e) == null) {
            return STATE;
        }
        if (run.size() == 100) {
            return FULL;
        }
        run.add(e);
        return run.size();
    }

    int undo() {
        if (run.isEmpty()) {
            return NONE;
        }
        run.remove(run.size() - 1);
        return run.size();
    }

    int run(int what) {
        if (what < 0 || what > 3) {
            return BAD;
        }
        int ready = 0;
        for (int e = 0; e < net.events.size(); e++) {
            ready |= net.ready(marking(), e) ? 1 << e : 0;
        }
        int latest = run.isEmpty() ? NONE : run.get(run.size() - 1);
        return new int[] {bits(marking()), ready, run.size(), latest}[what];
    }

    // ---- sheets

    int sheet(int k, int lane, int n) {
        if (k < 0 || k > 3 || lane < 0 || lane > 2 || n > 64) {
            return BAD;
        }
        if (n < 0) {
            return -14;
        }
        lanes[k] = lane;
        sheets[k] = new int[n];
        return 1;
    }

    int lay(int k, int i, int v) {
        if (k < 0 || k > 3) {
            return BAD;
        }
        if (sheets[k] == null) {
            return -11;
        }
        if (i < 0 || i >= sheets[k].length) {
            return -12;
        }
        int bits = lanes[k] == 0 ? 8 : lanes[k] == 1 ? 16 : 32;
        sheets[k][i] = v << 32 - bits >> 32 - bits;
        return 1;
    }

    int row(int k, int lane, int f, int n) {
        if (k < 0 || k > 3 || lane < 0 || lane > 2 || n < 0 || n > 64) {
            return BAD;
        }
        if (sheets[k] == null) {
            return -11;
        }
        if (lanes[k] != lane) {
            return -13;
        }
        for (long i = 0; i < n; i++) {
            if (f + i < 0 || f + i >= sheets[k].length) {
                return -12;
            }
        }
        TreeSet<Integer> m = net.first();
        for (int i = 0; i < n; i++) {
            int e = sheets[k][f + i];
            m = noEvent(e) || !net.ready(m, e) ? null : net.fire(m, e);
            if (m == null) {
                return i;
            }
        }
        return NONE;
    }

    int count(int what) {
        switch (what) {
            case 0: return net.wires.size();
            case 1: return net.events.size();
            case 2: return net.places.size();
            case 3: return net.first().size();
            case 4: return run.size();
            case 5: return tape.length();
            case 6: return sheets[0] == null ? NONE : sheets[0].length;
            default: return BAD;
        }
    }
}

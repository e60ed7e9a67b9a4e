import java.util.Arrays;

/**
 * Wires that wait for one another: a net of places with tokens is told in a text; its states, its
 * quarrels, the sums of cubes that make its wires, cures, the beat, a run by hand and rows of
 * events read from sheets are answered as numbers. Nothing here throws: all is tested ahead.
 */
public final class WaitingWires {
    public static final int BAD = -1, STATE = -2, FULL = -3, NONE = -4, SPENT = -6;

    private static final int WIRES = 6, EVENTS = 16, PLACES = 20, STATES = 200, LEVELS = 64;
    private static final int TAPE = 240, LETTERS = 26, LONGEST_RUN = 100, MOST_DELAY = 20, MOST_TIMES = 50;
    private static final int SHEETS = 4, CELLS = 64, LANES = 3, MOST_JUDGED = 30;
    private static final int IN = 0, OUT = 1, INNER = 2;
    private static final int NULL = 1, INDEX = 2, CAST = 3, SIZE = 4;
    private static final int UNLIKE_AIMS = -5, WOULD_NOT_BE_RIGHT = -10, WOULD_TAKE_BACK = -11;
    /** What a fault of a text or of a sheet, and a cell that is no cube, are told behind. */
    private static final int FAULT_BASE = -10, NO_CUBE_BASE = -20;
    /** A choice of the kind "10 and i". */
    private static final int AND = 10;
    /** No answer has this number: what has not been sought yet. */
    private static final int UNKNOWN = -100;

    private final Reader reader = new Reader();
    private final Space space = new Space();
    private final Clashes clashes = new Clashes();
    private final Sums sums = new Sums();
    private final Rings rings = new Rings();
    private final Hand hand = new Hand();
    private final Sheet[] sheets = new Sheet[SHEETS];
    /** The net that stands, and one that is tried: a text's while it is read, a cure's. */
    private Net net = new Net();
    private Net tried = new Net();
    private final Space triedSpace = new Space();
    private final Clashes triedClashes = new Clashes();
    private boolean explored, clashed, summed, ringed;
    /** What is known of the cures: UNKNOWN till it has been searched. */
    private int firstCure = UNKNOWN, allCures = UNKNOWN;

    public WaitingWires() {
        for (int k = 0; k < SHEETS; k++) {
            sheets[k] = new Sheet();
        }
    }

    // ---- the net

    public int feed(long v) {
        return reader.append(v) ? reader.length : FULL;
    }

    public int end(int n) {
        if (n < 0 || n > reader.length) {
            return BAD;
        }
        int had = reader.length;
        reader.length = n;
        return had;
    }

    public int text() {
        boolean taken = reader.readInto(tried);
        reader.length = 0;
        if (!taken) {
            return FAULT_BASE - reader.faultAt;
        }
        Net old = net;
        net = tried;
        tried = old;
        beginAnew();
        return net.places;
    }

    public int fault() {
        return reader.fault;
    }

    public int wire(int w, int what) {
        if (!net.hasWire(w)) {
            return BAD;
        }
        switch (what) {
            case 0: return net.letter[w];
            case 1: return net.kind[w];
            case 2: return net.eventsOf(w);
            default: return BAD;
        }
    }

    public int event(int e, int what) {
        if (!net.hasEvent(e)) {
            return BAD;
        }
        switch (what) {
            case 0: return net.wireOf[e];
            case 1: return net.rises[e];
            case 2: return net.index[e];
            case 3: return net.takes[e];
            case 4: return net.feeds[e];
            case 5: return net.delayOf[e];
            default: return BAD;
        }
    }

    public int place(int p, int what) {
        if (!net.hasPlace(p)) {
            return BAD;
        }
        switch (what) {
            case 0: return net.fedBy[p];
            case 1: return net.takenBy[p];
            case 2: return net.first >> p & 1;
            default: return BAD;
        }
    }

    // ---- states

    public int states() {
        explore();
        return space.outcome != 0 ? space.outcome : space.size;
    }

    public int right() {
        return isRight() ? 1 : 0;
    }

    public int of(int s, int what) {
        explore();
        if (s < 0 || s >= space.size) {
            return BAD;
        }
        if (what >= AND) {
            return net.hasEvent(what - AND) ? space.behind(s, what - AND) : BAD;
        }
        if (what < 0 || what > 4) {
            return BAD;
        }
        if (what == 0) {
            return space.marking[s];
        }
        if (what == 1) {
            return space.ready[s];
        }
        if (!space.right) {
            return STATE;
        }
        return what == 2 ? space.level[s] : what == 3 ? space.excited[s] : space.aims(s);
    }

    public int quarrels(int what) {
        if (what < 0 || what > 3) {
            return BAD;
        }
        if (!isRight()) {
            return STATE;
        }
        findClashes();
        switch (what) {
            case 0: return clashes.alike;
            case 1: return clashes.unlikeAims;
            case 2: return clashes.lessState;
            default: return clashes.greaterState;
        }
    }

    public int back(int what) {
        if (what < 0 || what > 3) {
            return BAD;
        }
        if (!isRight()) {
            return STATE;
        }
        findClashes();
        switch (what) {
            case 0: return clashes.takenBack;
            case 1: return clashes.backState;
            case 2: return clashes.backEvent;
            default: return clashes.backOther;
        }
    }

    public int stuck(int what) {
        if (what < 0 || what > 2) {
            return BAD;
        }
        explore();
        if (space.outcome != 0) {
            return STATE;
        }
        switch (what) {
            case 0: return space.ends();
            case 1: return space.astray();
            default: return net.events - Integer.bitCount(space.came);
        }
    }

    // ---- what makes a wire

    public int aim(int w, int levels) {
        if (!net.hasWire(w) || levels < 0 || levels >= 1 << net.wires) {
            return BAD;
        }
        if (!isRight()) {
            return STATE;
        }
        gatherSums();
        boolean one = (sums.on[w] >> levels & 1) != 0;
        boolean zero = (sums.off[w] >> levels & 1) != 0;
        if (one && zero) {
            return UNLIKE_AIMS;
        }
        return one ? 1 : zero ? 0 : NONE;
    }

    public int makes(int w, int what) {
        if (!net.isMade(w) || what < 0 || what > 1 && what < AND) {
            return BAD;
        }
        if (!canBeMade(w)) {
            return STATE;
        }
        sums.solve(w);
        switch (what) {
            case 0: return sums.size[w];
            case 1: return sums.letters[w];
            default: return sums.cube(w, what - AND);
        }
    }

    public int judge(int w, int k, int lane, int f, int n) {
        if (!net.isMade(w) || !isSheet(k) || !isLane(lane) || n < 0 || n > MOST_JUDGED) {
            return BAD;
        }
        if (!canBeMade(w)) {
            return STATE;
        }
        Sheet sheet = sheets[k];
        int fault = sheet.faultAs(lane);
        if (fault != 0) {
            return FAULT_BASE - fault;
        }
        long covered = 0;
        for (int i = 0; i < n; i++) {
            if (!sheet.hasCells(f, i + 1)) {
                return FAULT_BASE - INDEX;
            }
            int cube = sheet.cells[f + i];
            if (!sums.isCube(cube)) {
                return NO_CUBE_BASE - i;
            }
            covered |= Sums.levelsIn(cube, net.wires);
        }
        if ((covered & sums.off[w]) != 0) {
            return 2;
        }
        return (sums.on[w] & ~covered) != 0 ? 0 : 1;
    }

    public int cost() {
        if (!isRight()) {
            return STATE;
        }
        int sum = 0;
        for (int w = 0; w < net.wires; w++) {
            if (!net.isMade(w)) {
                continue;
            }
            if (!canBeMade(w)) {
                return STATE;
            }
            sums.solve(w);
            sum += sums.letters[w];
        }
        return sum;
    }

    // ---- cures

    public int would(int e, int f) {
        int refused = refusedCure(e, f);
        if (refused != 0) {
            return refused;
        }
        tryCure(e, f);
        if (!triedSpace.right) {
            return WOULD_NOT_BE_RIGHT;
        }
        return triedClashes.takenBack > 0 ? WOULD_TAKE_BACK : triedClashes.unlikeAims;
    }

    public int cure(int e, int f) {
        int refused = refusedCure(e, f);
        if (refused != 0) {
            return refused;
        }
        net.addWireBehind(e, f);
        beginAnew();
        return net.wires - 1;
    }

    public int cures(int what) {
        if (what < 0 || what > 1) {
            return BAD;
        }
        if (!isRight()) {
            return STATE;
        }
        if (!net.hasRoomForCure()) {
            return FULL;
        }
        boolean known = what == 0 ? firstCure != UNKNOWN : allCures != UNKNOWN;
        if (!known) {
            searchCures(what == 1);
        }
        return what == 0 ? firstCure : allCures;
    }

    // ---- delays

    public int delay(int e, int v) {
        if (!net.hasEvent(e) || v < 1 || v > MOST_DELAY) {
            return BAD;
        }
        int was = net.delayOf[e];
        net.delayOf[e] = v;
        ringed = false;
        return was;
    }

    public int beat(int what) {
        if (what < 0 || what > 2) {
            return BAD;
        }
        findRings();
        if (!rings.sound) {
            return STATE;
        }
        if (rings.denominator == 0) {
            return NONE;
        }
        return what == 0 ? rings.numerator : what == 1 ? rings.denominator : rings.onBeat;
    }

    public int time(int e, int k) {
        if (!net.hasEvent(e) || k < 1 || k > MOST_TIMES) {
            return BAD;
        }
        findRings();
        return rings.sound ? rings.endOf(net, e, k) : STATE;
    }

    // ---- the run

    public int come(int e) {
        if (!net.hasEvent(e)) {
            return BAD;
        }
        int marking = hand.markingOf(net);
        if (!net.canCome(marking, e)) {
            return STATE;
        }
        return hand.add(e, net.after(marking, e)) ? hand.size : FULL;
    }

    public int undo() {
        return hand.dropLatest() ? hand.size : NONE;
    }

    public int run(int what) {
        switch (what) {
            case 0: return hand.markingOf(net);
            case 1: return net.readyAt(hand.markingOf(net));
            case 2: return hand.size;
            case 3: return hand.latest();
            default: return BAD;
        }
    }

    // ---- sheets

    public int sheet(int k, int lane, int n) {
        if (!isSheet(k) || !isLane(lane) || n > CELLS) {
            return BAD;
        }
        if (n < 0) {
            return FAULT_BASE - SIZE;
        }
        sheets[k].renew(lane, n);
        return 1;
    }

    public int lay(int k, int i, int v) {
        if (!isSheet(k)) {
            return BAD;
        }
        Sheet sheet = sheets[k];
        if (sheet.isNothing()) {
            return FAULT_BASE - NULL;
        }
        if (!sheet.hasCells(i, 1)) {
            return FAULT_BASE - INDEX;
        }
        sheet.put(i, v);
        return 1;
    }

    public int row(int k, int lane, int f, int n) {
        if (!isSheet(k) || !isLane(lane) || n < 0 || n > CELLS) {
            return BAD;
        }
        Sheet sheet = sheets[k];
        int fault = sheet.faultAs(lane);
        if (fault != 0) {
            return FAULT_BASE - fault;
        }
        if (n > 0 && !sheet.hasCells(f, n)) {
            return FAULT_BASE - INDEX;
        }
        int marking = net.first;
        for (int i = 0; i < n; i++) {
            int e = sheet.cells[f + i];
            if (!net.hasEvent(e) || !net.canCome(marking, e)) {
                return i;
            }
            marking = net.after(marking, e);
        }
        return NONE;
    }

    public int count(int what) {
        switch (what) {
            case 0: return net.wires;
            case 1: return net.events;
            case 2: return net.places;
            case 3: return Integer.bitCount(net.first);
            case 4: return hand.size;
            case 5: return reader.length;
            case 6: return sheets[0].isNothing() ? NONE : sheets[0].size;
            default: return BAD;
        }
    }

    // ---- what the calls share

    private static boolean isSheet(int k) {
        return k >= 0 && k < SHEETS;
    }

    private static boolean isLane(int lane) {
        return lane >= 0 && lane < LANES;
    }

    /** The net is another one now: nothing that was found of the one before holds. */
    private void beginAnew() {
        hand.size = 0;
        explored = false;
        clashed = false;
        summed = false;
        ringed = false;
        firstCure = UNKNOWN;
        allCures = UNKNOWN;
    }

    private void explore() {
        if (!explored) {
            space.explore(net);
            explored = true;
        }
    }

    private boolean isRight() {
        explore();
        return space.right;
    }

    private void findClashes() {
        if (!clashed) {
            clashes.find(net, space);
            clashed = true;
        }
    }

    private void gatherSums() {
        if (!summed) {
            sums.gather(net.wires, space);
            summed = true;
        }
    }

    private boolean canBeMade(int w) {
        if (!isRight()) {
            return false;
        }
        gatherSums();
        return !sums.hasUnlikeAims(w);
    }

    private void findRings() {
        if (!ringed) {
            rings.find(net);
            ringed = true;
        }
    }

    /** Why a cure by e, f can not be, or 0. */
    private int refusedCure(int e, int f) {
        if (!net.hasEvent(e) || !net.hasEvent(f) || e == f) {
            return BAD;
        }
        if (!isRight()) {
            return STATE;
        }
        return net.hasRoomForCure() ? 0 : FULL;
    }

    private void tryCure(int e, int f) {
        tried.copyFrom(net);
        tried.addWireBehind(e, f);
        triedSpace.explore(tried);
        if (triedSpace.right) {
            triedClashes.find(tried, triedSpace);
        }
    }

    private boolean wouldCure(int e, int f) {
        tryCure(e, f);
        return triedSpace.right && triedClashes.unlikeAims == 0 && triedClashes.takenBack == 0;
    }

    /** The search for the first alone ends there: the whole of it is the dearest call of all. */
    private void searchCures(boolean all) {
        firstCure = NONE;
        int found = 0;
        for (int e = 0; e < net.events; e++) {
            for (int f = 0; f < net.events; f++) {
                if (e == f || !wouldCure(e, f)) {
                    continue;
                }
                if (found == 0) {
                    firstCure = 100 * e + f;
                }
                found++;
                if (!all) {
                    return;
                }
            }
        }
        allCures = found;
    }

    /** Where the lowest bit of some bits that are not all 0 stands. */
    private static int lowest(int bits) {
        return Integer.bitCount((bits & -bits) - 1);
    }

    /** Wires, events and places, as told; markings are bits of places. */
    private static final class Net {
        int wires, events, places;
        final int[] letter = new int[WIRES];
        final int[] kind = new int[WIRES];
        final int[] wireOf = new int[EVENTS];
        final int[] rises = new int[EVENTS];
        final int[] index = new int[EVENTS];
        final int[] takes = new int[EVENTS];
        final int[] feeds = new int[EVENTS];
        final int[] delayOf = new int[EVENTS];
        final int[] fedBy = new int[PLACES];
        final int[] takenBy = new int[PLACES];
        int first;

        void clear() {
            wires = 0;
            events = 0;
            places = 0;
            first = 0;
        }

        void copyFrom(Net other) {
            wires = other.wires;
            events = other.events;
            places = other.places;
            first = other.first;
            System.arraycopy(other.letter, 0, letter, 0, WIRES);
            System.arraycopy(other.kind, 0, kind, 0, WIRES);
            System.arraycopy(other.wireOf, 0, wireOf, 0, EVENTS);
            System.arraycopy(other.rises, 0, rises, 0, EVENTS);
            System.arraycopy(other.index, 0, index, 0, EVENTS);
            System.arraycopy(other.takes, 0, takes, 0, EVENTS);
            System.arraycopy(other.feeds, 0, feeds, 0, EVENTS);
            System.arraycopy(other.delayOf, 0, delayOf, 0, EVENTS);
            System.arraycopy(other.fedBy, 0, fedBy, 0, PLACES);
            System.arraycopy(other.takenBy, 0, takenBy, 0, PLACES);
        }

        boolean hasWire(int w) {
            return w >= 0 && w < wires;
        }

        boolean hasEvent(int e) {
            return e >= 0 && e < events;
        }

        boolean hasPlace(int p) {
            return p >= 0 && p < places;
        }

        boolean isMade(int w) {
            return hasWire(w) && kind[w] != IN;
        }

        /** Bits of the out and inner wires. */
        int madeWires() {
            int bits = 0;
            for (int w = 0; w < wires; w++) {
                if (kind[w] != IN) {
                    bits |= 1 << w;
                }
            }
            return bits;
        }

        int eventsOf(int w) {
            int found = 0;
            for (int e = 0; e < events; e++) {
                if (wireOf[e] == w) {
                    found++;
                }
            }
            return found;
        }

        /** NONE, if the letter is no wire. */
        int wireCalled(int sign) {
            for (int w = 0; w < wires; w++) {
                if (letter[w] == sign) {
                    return w;
                }
            }
            return NONE;
        }

        /** NONE, if there is no such event yet. */
        int eventLike(int w, int rise, int number) {
            for (int e = 0; e < events; e++) {
                if (wireOf[e] == w && rises[e] == rise && index[e] == number) {
                    return e;
                }
            }
            return NONE;
        }

        /** The number of the new wire; NONE, if there is no room. */
        int addWire(int sign, int sort) {
            if (wires >= WIRES) {
                return NONE;
            }
            letter[wires] = sign;
            kind[wires] = sort;
            return wires++;
        }

        /** The number of the new event; NONE, if there is no room. */
        int addEvent(int w, int rise, int number) {
            if (events >= EVENTS) {
                return NONE;
            }
            wireOf[events] = w;
            rises[events] = rise;
            index[events] = number;
            takes[events] = 0;
            feeds[events] = 0;
            delayOf[events] = 1;
            return events++;
        }

        void addPlace(int feeders, int takers, int token) {
            if (places >= PLACES) {
                return;
            }
            int bit = 1 << places;
            fedBy[places] = feeders;
            takenBy[places] = takers;
            first |= token << places;
            for (int e = 0; e < events; e++) {
                feeds[e] |= (feeders >> e & 1) != 0 ? bit : 0;
                takes[e] |= (takers >> e & 1) != 0 ? bit : 0;
            }
            places++;
        }

        boolean isReady(int marking, int e) {
            return takes[e] != 0 && (marking & takes[e]) == takes[e];
        }

        boolean isUnsafe(int marking, int e) {
            return (marking & ~takes[e] & feeds[e]) != 0;
        }

        boolean canCome(int marking, int e) {
            return isReady(marking, e) && !isUnsafe(marking, e);
        }

        int after(int marking, int e) {
            return marking & ~takes[e] | feeds[e];
        }

        int readyAt(int marking) {
            int bits = 0;
            for (int e = 0; e < events; e++) {
                if (isReady(marking, e)) {
                    bits |= 1 << e;
                }
            }
            return bits;
        }

        boolean hasRoomForCure() {
            return wires < WIRES && events + 2 <= EVENTS && places + 2 <= PLACES;
        }

        void addWireBehind(int e, int f) {
            int w = addWire(freeLetter(), INNER);
            int rise = addEvent(w, 1, 0);
            int fall = addEvent(w, 0, 0);
            if (rise >= 0 && fall >= 0) {
                handOver(e, rise);
                handOver(f, fall);
            }
        }

        /** All that one event fed is fed by a new one, which waits for it alone. */
        private void handOver(int from, int to) {
            for (int p = 0; p < places; p++) {
                if ((fedBy[p] >> from & 1) != 0) {
                    fedBy[p] = fedBy[p] & ~(1 << from) | 1 << to;
                }
            }
            feeds[to] = feeds[from];
            feeds[from] = 0;
            addPlace(1 << from, 1 << to, 0);
        }

        private int freeLetter() {
            for (int sign = 0; sign < LETTERS; sign++) {
                if (wireCalled(sign) < 0) {
                    return sign;
                }
            }
            return LETTERS;
        }
    }

    /** The tape, and what reads it as a text, token by token, one token ahead. */
    private static final class Reader {
        private static final int END = 0, NAME = 1, NUMBER = 2, SIGN = 3, NOTHING = 4;

        final byte[] tape = new byte[TAPE];
        int length;
        int fault, faultAt;
        private int position;
        /** Of the token that was read last: its sort, where it begins, its first byte. */
        private int sort, at, byteAt;
        private Net net;

        boolean append(long v) {
            if (length + 8 > TAPE) {
                return false;
            }
            for (int shift = 56; shift >= 0; shift -= 8) {
                tape[length++] = (byte) (v >> shift);
            }
            return true;
        }

        boolean readInto(Net told) {
            net = told;
            net.clear();
            fault = 0;
            faultAt = 0;
            position = 0;
            take();
            for (int lines = 0; lines < TAPE && fault == 0 && sort != END; lines++) {
                readLine();
            }
            return fault == 0;
        }

        private void readLine() {
            if (isWord("in")) {
                readWire(IN);
            } else if (isWord("out")) {
                readWire(OUT);
            } else if (isWord("inner")) {
                readWire(INNER);
            } else if (isWord("place")) {
                readPlace();
            } else {
                refuse(2, at);
            }
        }

        private void readWire(int kind) {
            if (net.wires >= WIRES) {
                refuse(6, at);
                return;
            }
            take();
            if (!isLetter()) {
                refuse(2, at);
            } else if (net.wireCalled(byteAt - 'a') >= 0) {
                refuse(4, at);
            } else {
                net.addWire(byteAt - 'a', kind);
                take();
                takeSign(';');
            }
        }

        private void readPlace() {
            if (net.places >= PLACES) {
                refuse(6, at);
                return;
            }
            take();
            int feeders = 0;
            for (int more = 0; more <= EVENTS && isLetter(); more++) {
                feeders |= readEvent(feeders);
            }
            takeSign('>');
            int takers = readEvent(0);
            for (int more = 0; more < EVENTS && isLetter(); more++) {
                takers |= readEvent(takers);
            }
            int token = byteAt - '0';
            if (sort != NUMBER) {
                refuse(2, at);
            } else if (token > 1) {
                refuse(3, at);
            } else {
                take();
                takeSign(';');
                net.addPlace(feeders, takers, token);
            }
        }

        /** The bit of an event that the side has not yet; 0 behind a fault. */
        private int readEvent(int side) {
            int letterAt = at;
            int w = isLetter() ? net.wireCalled(byteAt - 'a') : NONE;
            if (w < 0) {
                refuse(isLetter() ? 4 : 2, at);
                return 0;
            }
            take();
            if (!isSign('+') && !isSign('-')) {
                refuse(2, at);
                return 0;
            }
            int rise = byteAt == '+' ? 1 : 0;
            // the event is whole only when the token behind it has been read: it could be a slash
            take();
            int number = isSign('/') ? readIndex() : 0;
            int e = fault == 0 ? numberOf(w, rise, number) : NONE;
            if (e < 0) {
                refuse(6, letterAt);
                return 0;
            }
            if ((side >> e & 1) != 0) {
                refuse(5, letterAt);
                return 0;
            }
            return 1 << e;
        }

        private int readIndex() {
            take();
            int number = byteAt - '0';
            if (sort != NUMBER) {
                refuse(2, at);
                return 0;
            }
            take();
            return number;
        }

        /** The number of an event, a new one if need be; NONE, if that would be one too many. */
        private int numberOf(int w, int rise, int number) {
            int e = net.eventLike(w, rise, number);
            return e >= 0 ? e : net.addEvent(w, rise, number);
        }

        private void takeSign(char sign) {
            if (isSign(sign)) {
                take();
            } else {
                refuse(2, at);
            }
        }

        /** The token at hand is taken: the one behind it is read. */
        private void take() {
            if (fault != 0) {
                return;
            }
            while (position < length && tape[position] == ' ') {
                position++;
            }
            at = position;
            if (position >= length) {
                sort = END;
                return;
            }
            byteAt = tape[position];
            position++;
            if (isSmallLetter(byteAt)) {
                sort = NAME;
                while (position < length && isSmallLetter(tape[position])) {
                    position++;
                }
            } else if (isFigure(byteAt)) {
                sort = NUMBER;
                if (position < length && isFigure(tape[position])) {
                    refuse(1, at);
                }
            } else if (byteAt == '+' || byteAt == '-' || byteAt == '/' || byteAt == '>' || byteAt == ';') {
                sort = SIGN;
            } else {
                refuse(1, at);
            }
        }

        /** Only the first fault counts; behind it no token stands anywhere. */
        private void refuse(int why, int where) {
            sort = NOTHING;
            if (fault == 0) {
                fault = why;
                faultAt = where;
            }
        }

        private boolean isLetter() {
            return sort == NAME && position - at == 1;
        }

        private boolean isSign(char sign) {
            return sort == SIGN && byteAt == sign;
        }

        private boolean isWord(String word) {
            if (sort != NAME || position - at != word.length()) {
                return false;
            }
            for (int i = 0; i < word.length() && at + i < TAPE; i++) {
                if (tape[at + i] != word.charAt(i)) {
                    return false;
                }
            }
            return true;
        }

        private static boolean isSmallLetter(int sign) {
            return sign >= 'a' && sign <= 'z';
        }

        private static boolean isFigure(int sign) {
            return sign >= '0' && sign <= '9';
        }
    }

    /** All states that can come, what is ready in each, and the levels of a net that is right. */
    private static final class Space {
        private static final int SLOTS = 512, MIX = 0x9E3779B1, TOP_BITS = 23;

        int size, outcome, came;
        boolean right;
        final int[] marking = new int[STATES];
        final int[] ready = new int[STATES];
        final int[] level = new int[STATES];
        final int[] excited = new int[STATES];
        private final int[] next = new int[STATES * EVENTS];
        /** Where a marking is found: its state and 1; 0 where nothing is. */
        private final int[] slots = new int[SLOTS];
        /** 1 for a state from which the first one can come again. */
        private final int[] home = new int[STATES];
        private int strays;

        void explore(Net net) {
            size = 0;
            outcome = 0;
            came = 0;
            strays = UNKNOWN;
            Arrays.fill(slots, 0);
            meet(net.first, 0);
            for (int s = 0; s < size && outcome == 0; s++) {
                expand(net, s);
            }
            if (outcome != 0) {
                size = 0;
            }
            right = outcome == 0 && tellLevels(net);
        }

        int aims(int s) {
            return level[s] ^ excited[s];
        }

        int behind(int s, int e) {
            return (ready[s] >> e & 1) != 0 ? next[s * EVENTS + e] : NONE;
        }

        int ends() {
            int found = 0;
            for (int s = 0; s < size; s++) {
                if (ready[s] == 0) {
                    found++;
                }
            }
            return found;
        }

        /** How many states have no way to the first one. */
        int astray() {
            if (strays == UNKNOWN) {
                strays = size - findHome();
            }
            return strays;
        }

        private int findHome() {
            Arrays.fill(home, 0);
            home[0] = 1;
            int found = 1;
            int before = 0;
            for (int rounds = 0; rounds < STATES && found > before; rounds++) {
                before = found;
                // from the last on: most ways lead to states with greater numbers and then home
                for (int s = size - 1; s > 0; s--) {
                    if (home[s] == 0 && leadsHome(s)) {
                        home[s] = 1;
                        found++;
                    }
                }
            }
            return found;
        }

        private boolean leadsHome(int s) {
            for (int e = 0; e < EVENTS; e++) {
                if ((ready[s] >> e & 1) != 0 && home[next[s * EVENTS + e]] == 1) {
                    return true;
                }
            }
            return false;
        }

        private void expand(Net net, int s) {
            int here = marking[s];
            int events = 0;
            int wires = 0;
            for (int e = 0; e < net.events; e++) {
                if (!net.isReady(here, e)) {
                    continue;
                }
                if (net.isUnsafe(here, e)) {
                    outcome = STATE;
                    return;
                }
                int wire = 1 << net.wireOf[e];
                int t = meet(net.after(here, e), level[s] ^ wire);
                if (t < 0) {
                    outcome = SPENT;
                    return;
                }
                next[s * EVENTS + e] = t;
                events |= 1 << e;
                wires |= wire;
            }
            ready[s] = events;
            excited[s] = wires;
            came |= events;
        }

        /**
         * The state of a marking, a new one if need be; NONE, if that would be one too many. What
         * stands as its level till all are met: the wires that changed on the way to it.
         */
        private int meet(int tokens, int changed) {
            int slot = tokens * MIX >>> TOP_BITS;
            for (int tries = 0; tries < SLOTS; tries++) {
                int s = slots[slot] - 1;
                if (s < 0) {
                    break;
                }
                if (marking[s] == tokens) {
                    return s;
                }
                slot = slot + 1 & SLOTS - 1;
            }
            if (size >= STATES) {
                return NONE;
            }
            marking[size] = tokens;
            level[size] = changed;
            slots[slot] = size + 1;
            return size++;
        }

        /** Every way to a state must change the same wires, every event must fit one beginning. */
        private boolean tellLevels(Net net) {
            int known = 0;
            int beginning = 0;
            for (int s = 0; s < size; s++) {
                for (int e = 0; e < net.events; e++) {
                    if ((ready[s] >> e & 1) == 0) {
                        continue;
                    }
                    int wire = 1 << net.wireOf[e];
                    if ((level[s] ^ wire) != level[next[s * EVENTS + e]]) {
                        return false;
                    }
                    int high = (net.rises[e] == 1 ? 0 : wire) ^ level[s] & wire;
                    if ((known & wire) != 0 && (beginning & wire) != high) {
                        return false;
                    }
                    known |= wire;
                    beginning |= high;
                }
            }
            for (int s = 0; s < size; s++) {
                level[s] ^= beginning;
            }
            return true;
        }
    }

    /** States that look alike and go on unlike, and events that are taken back, of a right net. */
    private static final class Clashes {
        int alike, unlikeAims, lessState, greaterState;
        int takenBack, backState, backEvent, backOther;
        /** Chains of the states that share their levels, the latest first. */
        private final int[] heads = new int[LEVELS];
        private final int[] links = new int[STATES];

        void find(Net net, Space space) {
            int made = net.madeWires();
            findQuarrels(made, space);
            findTakenBack(net, made, space);
        }

        private void findQuarrels(int made, Space space) {
            alike = 0;
            unlikeAims = 0;
            lessState = NONE;
            greaterState = NONE;
            Arrays.fill(heads, NONE);
            for (int s = 0; s < space.size; s++) {
                int levels = space.level[s] & LEVELS - 1;
                int t = heads[levels];
                for (int chained = 0; chained < STATES && t >= 0; chained++) {
                    alike++;
                    if (((space.excited[s] ^ space.excited[t]) & made) != 0) {
                        addQuarrel(t, s);
                    }
                    t = links[t];
                }
                links[s] = heads[levels];
                heads[levels] = s;
            }
        }

        private void addQuarrel(int less, int greater) {
            // the greater ones come in their order, so of one less state the first stands
            if (unlikeAims == 0 || less < lessState) {
                lessState = less;
                greaterState = greater;
            }
            unlikeAims++;
        }

        private void findTakenBack(Net net, int made, Space space) {
            takenBack = 0;
            backState = NONE;
            backEvent = NONE;
            backOther = NONE;
            for (int s = 0; s < space.size; s++) {
                for (int f = 0; f < net.events; f++) {
                    int t = space.behind(s, f);
                    if (t < 0) {
                        continue;
                    }
                    int calmed = space.excited[s] & ~space.excited[t] & made & ~(1 << net.wireOf[f]);
                    if (calmed != 0) {
                        addTakenBack(net, calmed, space.ready[s], s, f);
                    }
                }
            }
        }

        private void addTakenBack(Net net, int calmed, int ready, int s, int f) {
            for (int e = 0; e < net.events; e++) {
                if ((ready >> e & 1) == 0 || (calmed >> net.wireOf[e] & 1) == 0) {
                    continue;
                }
                if (takenBack == 0 || s == backState && e < backEvent) {
                    backState = s;
                    backEvent = e;
                    backOther = f;
                }
                takenBack++;
            }
        }
    }

    /** For each wire the levels with aim 1 and 0, as bits, and the least sum of cubes. */
    private static final class Sums {
        /** More than half of all levels are never needed: two that touch share a cube. */
        private static final int MOST = 32;
        private static final long[] HIGH = {
            0xAAAAAAAAAAAAAAAAL, 0xCCCCCCCCCCCCCCCCL, 0xF0F0F0F0F0F0F0F0L,
            0xFF00FF00FF00FF00L, 0xFFFF0000FFFF0000L, 0xFFFFFFFF00000000L};

        final long[] on = new long[WIRES];
        final long[] off = new long[WIRES];
        final int[] size = new int[WIRES];
        final int[] letters = new int[WIRES];
        private final int[] cubes = new int[WIRES * MOST];
        private final Cover cover = new Cover();
        private int wires, cubesInAll, solved;

        void gather(int wireCount, Space space) {
            wires = wireCount;
            solved = 0;
            cubesInAll = 1;
            for (int w = 0; w < wires; w++) {
                cubesInAll *= 3;
                on[w] = 0;
                off[w] = 0;
            }
            for (int s = 0; s < space.size; s++) {
                long bit = 1L << space.level[s];
                int aims = space.aims(s);
                for (int w = 0; w < wires; w++) {
                    if ((aims >> w & 1) != 0) {
                        on[w] |= bit;
                    } else {
                        off[w] |= bit;
                    }
                }
            }
        }

        boolean hasUnlikeAims(int w) {
            return (on[w] & off[w]) != 0;
        }

        boolean isCube(int number) {
            return number >= 0 && number < cubesInAll;
        }

        int cube(int w, int i) {
            return i >= 0 && i < size[w] ? cubes[w * MOST + i] : NONE;
        }

        void solve(int w) {
            if ((solved >> w & 1) != 0) {
                return;
            }
            solved |= 1 << w;
            cover.gatherPrimes(on[w], off[w], wires, cubesInAll);
            size[w] = cover.choose(on[w]);
            letters[w] = 0;
            for (int i = 0; i < size[w]; i++) {
                cubes[w * MOST + i] = cover.chosen[i];
                letters[w] += lettersOf(cover.chosen[i], wires);
            }
        }

        /** The levels that a cube has, bit l for levels l. */
        static long levelsIn(int cube, int wires) {
            long levels = wires >= WIRES ? -1L : (1L << (1 << wires)) - 1;
            int rest = cube;
            for (int w = 0; w < wires && w < WIRES; w++) {
                int figure = rest % 3;
                rest /= 3;
                if (figure == 0) {
                    levels &= ~HIGH[w];
                } else if (figure == 1) {
                    levels &= HIGH[w];
                }
            }
            return levels;
        }

        static int lettersOf(int cube, int wires) {
            int found = 0;
            int rest = cube;
            for (int w = 0; w < wires; w++) {
                if (rest % 3 != 2) {
                    found++;
                }
                rest /= 3;
            }
            return found;
        }
    }

    /**
     * The least cover of levels by cubes. Only prime cubes count: from any other a letter could be
     * dropped. A cube weighs 256 and its letters, so that the least weight in all means the fewest
     * cubes first (32 cubes have 192 letters at most).
     */
    private static final class Cover {
        private static final int ALL_CUBES = 729, CUBE = 256, MOST = 32, TOO_MUCH = (MOST + 1) * CUBE;

        final int[] chosen = new int[MOST];
        private int primes;
        private final int[] cube = new int[ALL_CUBES];
        private final int[] weight = new int[ALL_CUBES];
        private final long[] levels = new long[ALL_CUBES];
        /** For each level: how many primes have it, the lightest one's weight, all that they have. */
        private final int[] choices = new int[LEVELS];
        private final int[] lightest = new int[LEVELS];
        private final long[] reach = new long[LEVELS];
        /** The levels that must be had, those with the fewest choices first. */
        private final int[] order = new int[LEVELS];
        private int ordered;

        void gatherPrimes(long on, long off, int wires, int cubesInAll) {
            primes = 0;
            for (int c = 0; c < cubesInAll && c < ALL_CUBES; c++) {
                long has = Sums.levelsIn(c, wires);
                if ((has & off) == 0 && (has & on) != 0 && isPrime(c, has, off, wires)) {
                    cube[primes] = c;
                    weight[primes] = CUBE + Sums.lettersOf(c, wires);
                    levels[primes] = has;
                    primes++;
                }
            }
            weighLevels(on);
        }

        /** Whether each letter that is dropped lets in a level with aim 0. */
        private static boolean isPrime(int c, long has, long off, int wires) {
            int rest = c;
            for (int w = 0; w < wires; w++) {
                int figure = rest % 3;
                rest /= 3;
                int step = 1 << w;
                if (figure == 0 && (has << step & off) == 0 || figure == 1 && (has >>> step & off) == 0) {
                    return false;
                }
            }
            return true;
        }

        private void weighLevels(long on) {
            ordered = 0;
            for (int l = 0; l < LEVELS; l++) {
                choices[l] = 0;
                lightest[l] = TOO_MUCH;
                reach[l] = 0;
                if ((on >>> l & 1) == 0) {
                    continue;
                }
                for (int p = 0; p < primes; p++) {
                    if ((levels[p] >>> l & 1) != 0) {
                        choices[l]++;
                        lightest[l] = Math.min(lightest[l], weight[p]);
                        reach[l] |= levels[p];
                    }
                }
                putInOrder(l);
            }
        }

        private void putInOrder(int l) {
            int i = ordered;
            for (; i > 0 && choices[order[i - 1]] > choices[l]; i--) {
                order[i] = order[i - 1];
            }
            order[i] = l;
            ordered++;
        }

        /** The cubes of the least cover stand in chosen, as taken: how many. */
        int choose(long on) {
            long open = on;
            int budget = leastWeight(this, open, TOO_MUCH, 0);
            int taken = 0;
            for (int l = 0; l < LEVELS && taken < MOST; l++) {
                if ((open >>> l & 1) == 0) {
                    continue;
                }
                int p = firstThatCanDo(open, l, budget);
                if (p < 0) {
                    break;
                }
                chosen[taken] = cube[p];
                taken++;
                budget -= weight[p];
                open &= ~levels[p];
            }
            return taken;
        }

        private int firstThatCanDo(long open, int l, int budget) {
            for (int p = 0; p < primes; p++) {
                if ((levels[p] >>> l & 1) == 0 || weight[p] > budget) {
                    continue;
                }
                int left = budget - weight[p];
                if (leastWeight(this, open & ~levels[p], left, 0) <= left) {
                    return p;
                }
            }
            return NONE;
        }

        /** The least weight that covers what is open, or more than the limit. */
        private static int leastWeight(Cover cover, long open, int limit, int depth) {
            if (open == 0) {
                return 0;
            }
            if (depth >= MOST || cover.weightAtLeast(open) > limit) {
                return limit + 1;
            }
            int l = cover.hardest(open);
            int best = limit + 1;
            for (int p = 0; p < cover.primes; p++) {
                if ((cover.levels[p] >>> l & 1) == 0 || cover.isOutdone(p, l, open)) {
                    continue;
                }
                int rest = leastWeight(cover, open & ~cover.levels[p], best - 1 - cover.weight[p], depth + 1);
                best = Math.min(best, rest + cover.weight[p]);
            }
            return best;
        }

        /** Levels of which no two share a prime need one each. */
        private int weightAtLeast(long open) {
            long rest = open;
            int sum = 0;
            for (int i = 0; i < ordered && rest != 0; i++) {
                int l = order[i];
                if ((rest >>> l & 1) != 0) {
                    sum += lightest[l];
                    rest &= ~reach[l];
                }
            }
            return sum;
        }

        private int hardest(long open) {
            for (int i = 0; i < ordered; i++) {
                if ((open >>> order[i] & 1) != 0) {
                    return order[i];
                }
            }
            return 0;
        }

        /** Whether another prime that has the level has all that is open of this one, for no more. */
        private boolean isOutdone(int p, int l, long open) {
            long mine = levels[p] & open;
            for (int q = 0; q < primes; q++) {
                if (q == p || (levels[q] >>> l & 1) == 0 || (mine & ~levels[q]) != 0 || weight[q] > weight[p]) {
                    continue;
                }
                boolean same = weight[q] == weight[p] && (levels[q] & open) == mine;
                if (!same || q < p) {
                    return true;
                }
            }
            return false;
        }
    }

    /** Rings of events with delays: their beat, and when each event ends. */
    private static final class Rings {
        private static final int NEVER = -1;

        /** Each place is fed and taken from once, and each ring has a token. */
        boolean sound;
        int numerator, denominator, onBeat;
        private final int[] feeder = new int[PLACES];
        private final int[] taker = new int[PLACES];
        /** Events, each behind those that feed its places without a token. */
        private final int[] order = new int[EVENTS];
        private int ordered;
        /** The longest ways from one event: to each by as many tokens as now, and by one less. */
        private int[] ways = new int[EVENTS];
        private int[] waysBefore = new int[EVENTS];
        /** For each event and number of tokens the longest way back to it. */
        private final int[] closed = new int[EVENTS * (EVENTS + 1)];

        void find(Net net) {
            numerator = 0;
            denominator = 0;
            onBeat = 0;
            sound = findEnds(net) && putInOrder(net);
            if (!sound) {
                return;
            }
            for (int e = 0; e < net.events; e++) {
                findClosedWays(net, e);
            }
            findBeat(net.events);
        }

        private boolean findEnds(Net net) {
            for (int p = 0; p < net.places; p++) {
                if (Integer.bitCount(net.fedBy[p]) != 1 || Integer.bitCount(net.takenBy[p]) != 1) {
                    return false;
                }
                feeder[p] = lowest(net.fedBy[p]);
                taker[p] = lowest(net.takenBy[p]);
            }
            return true;
        }

        /** False, if a ring has no token. */
        private boolean putInOrder(Net net) {
            int done = 0;
            ordered = 0;
            for (int round = 0; round < net.events; round++) {
                for (int e = 0; e < net.events; e++) {
                    if ((done >> e & 1) == 0 && waitsForNone(net, e, done)) {
                        done |= 1 << e;
                        order[ordered] = e;
                        ordered++;
                    }
                }
            }
            return ordered == net.events;
        }

        private boolean waitsForNone(Net net, int e, int done) {
            int empty = net.takes[e] & ~net.first;
            for (int p = 0; p < net.places; p++) {
                if ((empty >> p & 1) != 0 && (done >> feeder[p] & 1) == 0) {
                    return false;
                }
            }
            return true;
        }

        /** A ring of events has no more tokens than events: ways by so many are enough. */
        private void findClosedWays(Net net, int from) {
            Arrays.fill(ways, NEVER);
            ways[from] = 0;
            goOnWithoutToken(net);
            for (int tokens = 1; tokens <= net.events; tokens++) {
                turnWays();
                Arrays.fill(ways, NEVER);
                for (int p = 0; p < net.places; p++) {
                    if ((net.first >> p & 1) != 0) {
                        lengthen(waysBefore, net, p);
                    }
                }
                goOnWithoutToken(net);
                closed[from * (EVENTS + 1) + tokens] = ways[from];
            }
        }

        private void turnWays() {
            int[] old = waysBefore;
            waysBefore = ways;
            ways = old;
        }

        private void goOnWithoutToken(Net net) {
            for (int i = 0; i < ordered; i++) {
                int empty = net.feeds[order[i]] & ~net.first;
                for (int p = 0; p < net.places && empty >> p != 0; p++) {
                    if ((empty >> p & 1) != 0) {
                        lengthen(ways, net, p);
                    }
                }
            }
        }

        private void lengthen(int[] from, Net net, int p) {
            int x = feeder[p];
            if (from[x] != NEVER) {
                ways[taker[p]] = Math.max(ways[taker[p]], from[x] + net.delayOf[x]);
            }
        }

        private void findBeat(int events) {
            for (int e = 0; e < events; e++) {
                for (int tokens = 1; tokens <= events; tokens++) {
                    int way = closed[e * (EVENTS + 1) + tokens];
                    if (way == NEVER) {
                        continue;
                    }
                    // against the best so far, whose denominator is 0 as long as there is none
                    int more = way * denominator - numerator * tokens;
                    if (denominator == 0 || more > 0) {
                        numerator = way;
                        denominator = tokens;
                        onBeat = 0;
                    }
                    if (more >= 0) {
                        onBeat |= 1 << e;
                    }
                }
            }
            reduce();
        }

        private void reduce() {
            int a = numerator;
            int b = denominator;
            for (int steps = 0; steps < 100 && b != 0; steps++) {
                int rest = a % b;
                a = b;
                b = rest;
            }
            if (a > 1) {
                numerator /= a;
                denominator /= a;
            }
        }

        /** When an event's time k ends; NONE, if it never comes so often. */
        int endOf(Net net, int event, int k) {
            Arrays.fill(ways, 0);
            for (int times = 1; times <= k; times++) {
                turnWays();
                for (int i = 0; i < ordered; i++) {
                    int e = order[i];
                    int begin = beginOf(net, e);
                    ways[e] = begin == NEVER ? NEVER : begin + net.delayOf[e];
                }
            }
            return ways[event] == NEVER ? NONE : ways[event];
        }

        /** Here ways are the ends of this time; those of the time before are 0 for the first. */
        private int beginOf(Net net, int e) {
            int begin = net.takes[e] == 0 ? NEVER : 0;
            for (int p = 0; p < net.places && begin != NEVER; p++) {
                if ((net.takes[e] >> p & 1) == 0) {
                    continue;
                }
                int there = (net.first >> p & 1) != 0 ? waysBefore[feeder[p]] : ways[feeder[p]];
                begin = there == NEVER ? NEVER : Math.max(begin, there);
            }
            return begin;
        }
    }

    /** The run by hand: each event that came, and the marking behind it. */
    private static final class Hand {
        int size;
        private final int[] events = new int[LONGEST_RUN];
        private final int[] markings = new int[LONGEST_RUN];

        int markingOf(Net net) {
            return size > 0 && size <= LONGEST_RUN ? markings[size - 1] : net.first;
        }

        int latest() {
            return size > 0 && size <= LONGEST_RUN ? events[size - 1] : NONE;
        }

        boolean add(int e, int marking) {
            if (size >= LONGEST_RUN) {
                return false;
            }
            events[size] = e;
            markings[size] = marking;
            size++;
            return true;
        }

        boolean dropLatest() {
            if (size <= 0) {
                return false;
            }
            size--;
            return true;
        }
    }

    /** A row of cells of a lane, or nothing: its cells are kept and used again. */
    private static final class Sheet {
        private static final int NO_ROW = -1;

        int size = NO_ROW;
        final int[] cells = new int[CELLS];
        private int lane;

        boolean isNothing() {
            return size < 0;
        }

        void renew(int newLane, int newSize) {
            lane = newLane;
            size = newSize;
            Arrays.fill(cells, 0);
        }

        /** The fault of taking the sheet as of a lane, or 0. */
        int faultAs(int wanted) {
            if (isNothing()) {
                return NULL;
            }
            return wanted == lane ? 0 : CAST;
        }

        /** Whether n cells (n from 1 on) stand from cell f on; without a sum that could run over. */
        boolean hasCells(int f, int n) {
            return f >= 0 && f <= size - n;
        }

        void put(int i, int v) {
            cells[i] = lane == 0 ? (byte) v : lane == 1 ? (short) v : v;
        }
    }
}

import java.util.ArrayList;
import java.util.Collections;
import java.util.List;
import java.util.Random;

/** Texts of nets, made up by a seed: the same seed always makes the same text. */
final class Nets {
    private final Random random;
    private final int[] used = new int[52];
    private final boolean[] high = new boolean[26];
    private int wires;

    private Nets(long seed) {
        random = new Random(seed);
    }

    /** A text that fits the tape; most are nets that are right, some are anything. */
    static String text(long seed) {
        for (int tries = 0; ; tries++) {
            Nets nets = new Nets(seed * 1000 + tries);
            String text = nets.one(seed);
            text = seed / 8 % 3 == 0 ? nets.shuffled(text) : text;
            if (text.length() <= 240) {
                return text;
            }
        }
    }

    private String one(long seed) {
        switch ((int) (seed % 8)) {
            case 0: return anything();
            case 1: return readers();
            case 2: return rings();
            case 3: return chains();
            case 4: return choices();
            default: return segments();
        }
    }

    /** The same places in another order: events and places have other numbers then. */
    private String shuffled(String text) {
        StringBuilder wires = new StringBuilder();
        List<String> places = new ArrayList<>();
        for (String line : text.split(";")) {
            if (line.startsWith("place")) {
                places.add(line + ";");
            } else if (!line.isEmpty()) {
                wires.append(line).append(';');
            }
        }
        Collections.shuffle(places, random);
        return wires + String.join("", places);
    }

    private String heads() {
        StringBuilder s = new StringBuilder();
        for (int w = 0; w < wires; w++) {
            int kind = random.nextInt(5);
            s.append(kind < 2 ? "in " : kind < 4 ? "out " : "inner ").append((char) ('a' + w)).append(';');
        }
        return s.toString();
    }

    /** The next change of a wire, with an index of its own. */
    private String change(int w) {
        high[w] = !high[w];
        int i = used[w * 2 + (high[w] ? 1 : 0)]++;
        return (char) ('a' + w) + (high[w] ? "+" : "-") + (i == 0 ? "" : "/" + i);
    }

    private static String place(String from, String to, int token) {
        return "place " + from + ">" + to + " " + token + ";";
    }

    /** A ring of parts: single events, or chains of events beside one another. */
    private String segments() {
        wires = 2 + random.nextInt(4);
        List<List<List<String>>> parts = new ArrayList<>();
        int rounds = 1 + random.nextInt(5);
        for (int i = 0; i < rounds; i++) {
            parts.add(part());
        }
        List<List<String>> rest = new ArrayList<>();
        for (int w = 0; w < wires; w++) {
            if (high[w]) {
                if (random.nextInt(3) > 0 || rest.isEmpty()) {
                    rest = new ArrayList<>();
                    parts.add(rest);
                }
                rest.add(new ArrayList<>(List.of(change(w))));
            }
        }
        StringBuilder s = new StringBuilder(heads());
        int start = random.nextInt(parts.size());
        for (int i = 0; i < parts.size(); i++) {
            List<List<String>> next = parts.get((i + 1) % parts.size());
            for (List<String> chain : parts.get(i)) {
                for (int j = 0; j + 1 < chain.size(); j++) {
                    s.append(place(chain.get(j), chain.get(j + 1), 0));
                }
                for (List<String> to : next) {
                    s.append(place(chain.get(chain.size() - 1), to.get(0), i == start ? 1 : 0));
                }
            }
        }
        return s.toString();
    }

    private List<List<String>> part() {
        List<List<String>> part = new ArrayList<>();
        int beside = 1 + random.nextInt(3);
        int from = random.nextInt(wires);
        for (int i = 0; i < beside && i < wires; i++) {
            List<String> chain = new ArrayList<>();
            int length = random.nextInt(4) == 0 ? 2 : 1;
            for (int j = 0; j < length; j++) {
                chain.add(change((from + i) % wires));
            }
            part.add(chain);
        }
        return part;
    }

    /** In wires as they like, and one wire that waits for some of their levels. */
    private String readers() {
        int ins = 1 + random.nextInt(3);
        wires = ins + 1;
        String f = "" + (char) ('a' + ins);
        int ups = 1 + random.nextInt(2);
        int downs = 1 + random.nextInt(2);
        StringBuilder[] sides = new StringBuilder[2 * ins];
        for (int i = 0; i < sides.length; i++) {
            sides[i] = new StringBuilder();
        }
        StringBuilder up = new StringBuilder();
        StringBuilder down = new StringBuilder();
        for (int i = 0; i < ups + downs; i++) {
            String e = f + (i < ups ? "+" : "-") + "/" + i;
            (i < ups ? up : down).append(e).append(' ');
            for (int w = 0; w < ins; w++) {
                int level = random.nextInt(3);
                if (level < 2) {
                    sides[2 * w + level].append(' ').append(e);
                }
            }
        }
        StringBuilder s = new StringBuilder(heads());
        for (int w = 0; w < ins; w++) {
            char c = (char) ('a' + w);
            s.append(place(c + "-" + sides[2 * w], c + "+" + sides[2 * w], 1));
            s.append(place(c + "+" + sides[2 * w + 1], c + "-" + sides[2 * w + 1], 0));
        }
        s.append(place(down.toString(), up.toString(), 1)).append(place(up.toString(), down.toString(), 0));
        return s.toString();
    }

    /** Events anywhere on rings, each place fed once and taken from once. */
    private String rings() {
        wires = 1 + random.nextInt(4);
        List<String> events = new ArrayList<>();
        int n = 2 + random.nextInt(7);
        for (int i = 0; i < n; i++) {
            events.add(change(random.nextInt(wires)));
        }
        StringBuilder s = new StringBuilder(heads());
        for (int i = 0; i < n; i++) {
            if (random.nextInt(12) > 0) {
                s.append(place(events.get(i), events.get((i + 1) % n), i == n - 1 ? 1 : random.nextInt(4) / 3));
            }
        }
        int more = random.nextInt(5);
        for (int i = 0; i < more; i++) {
            int from = random.nextInt(n);
            int to = random.nextInt(n);
            int token = from < to ? random.nextInt(5) / 4 : random.nextInt(8) == 0 ? 0 : 1;
            s.append(place(events.get(from), events.get(to), token));
        }
        return s.toString();
    }

    /** Chains and rings beside one another, without a word between them: many states. */
    private String chains() {
        wires = 2 + random.nextInt(4);
        StringBuilder s = new StringBuilder(heads());
        for (int w = 0; w < wires; w++) {
            int n = 1 + random.nextInt(4);
            List<String> events = new ArrayList<>();
            for (int i = 0; i < n; i++) {
                events.add(change(w));
            }
            boolean ring = random.nextBoolean();
            s.append(place(ring ? events.get(n - 1) : "", events.get(0), 1));
            for (int i = 0; i + 1 < n; i++) {
                s.append(place(events.get(i), events.get(i + 1), 0));
            }
        }
        return s.toString();
    }

    /** Places from which several take, ways that meet again. */
    private String choices() {
        wires = 2 + random.nextInt(3);
        int ways = 2 + random.nextInt(2);
        StringBuilder firsts = new StringBuilder();
        StringBuilder lasts = new StringBuilder();
        StringBuilder s = new StringBuilder();
        for (int i = 0; i < ways; i++) {
            int w = random.nextInt(wires);
            int v = random.nextInt(wires);
            List<String> chain = new ArrayList<>(List.of(change(w)));
            if (v != w) {
                chain.add(change(v));
                chain.add(change(random.nextBoolean() ? w : v));
                chain.add(change(chain.get(2).charAt(0) == 'a' + w ? v : w));
            } else {
                chain.add(change(w));
            }
            for (int j = 0; j + 1 < chain.size(); j++) {
                s.append(place(chain.get(j), chain.get(j + 1), 0));
            }
            firsts.append(chain.get(0)).append(' ');
            lasts.append(chain.get(chain.size() - 1)).append(' ');
        }
        return heads() + place(lasts.toString(), firsts.toString(), 1) + s;
    }

    private String anything() {
        wires = 1 + random.nextInt(4);
        List<String> events = new ArrayList<>();
        int n = 1 + random.nextInt(8);
        for (int i = 0; i < n; i++) {
            events.add(random.nextInt(3) > 0 ? change(random.nextInt(wires))
                    : (char) ('a' + random.nextInt(wires)) + (random.nextBoolean() ? "+" : "-"));
        }
        StringBuilder s = new StringBuilder(heads());
        int places = random.nextInt(10);
        for (int i = 0; i < places; i++) {
            s.append(place(some(events, 0), some(events, 1), random.nextInt(3) == 0 ? 1 : 0));
        }
        return s.toString();
    }

    private String some(List<String> events, int least) {
        List<String> taken = new ArrayList<>();
        int n = least + random.nextInt(2);
        for (int i = 0; i < n; i++) {
            String e = events.get(random.nextInt(events.size()));
            if (!taken.contains(e)) {
                taken.add(e);
            }
        }
        return String.join(" ", taken);
    }
}

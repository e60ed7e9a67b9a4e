import java.lang.reflect.Constructor;
import java.lang.reflect.Field;
import java.lang.reflect.Method;
import java.util.ArrayList;
import java.util.Arrays;
import java.util.List;
import java.util.Random;

/**
 * Promise 16, the sums themselves: the search inside the class against trying all that there is, for levels
 * with aim 1 and 0 as they come. (Nets that fit the tape seldom ask for more than a handful of cubes, and
 * none was found in which more cubes would have fewer letters: so some such levels stand here.)
 */
public final class CoverTest {
    private static final int MOST_LEVELS = 13;
    /** Levels of six wires with aim 1, with aim 0: the fewest cubes have more letters than more cubes need. */
    private static final int[][][] CUBES_FIRST = {
        {{8, 61, 16, 62, 32, 53}, {20, 28, 56, 36}},
        {{51, 18, 38, 52, 37, 15, 14, 5}, {44, 49, 23, 2}},
        {{34, 31, 52, 21, 20, 26, 11, 51, 38, 4}, {18, 19, 42, 8, 3, 39, 5, 30}},
        {{31, 41, 23, 9, 14, 56, 6, 58, 33, 39, 42, 54}, {30, 43, 13, 60}},
        {{53, 61, 54, 52, 37, 13, 2, 42, 63, 46, 14, 56}, {60, 12, 11, 18, 39, 43, 38, 31}},
        {{30, 51, 53, 3, 25, 38, 21, 43, 2, 44, 18, 36}, {12, 32, 19, 46, 4, 20, 42, 34, 10, 48, 54, 49}}};

    private final Object cover;
    private final Method gather, choose;
    private final Field chosen;
    private int wires, cubes;
    private final List<Integer> on = new ArrayList<>();
    private final List<Integer> off = new ArrayList<>();
    /** Of each cube without a level of aim 0: its number, which of the levels with aim 1 it has, its letters. */
    private final List<int[]> usable = new ArrayList<>();

    private CoverTest() throws ReflectiveOperationException {
        Class<?> type = Class.forName("WaitingWires$Cover");
        Constructor<?> made = type.getDeclaredConstructor();
        made.setAccessible(true);
        cover = made.newInstance();
        gather = type.getDeclaredMethod("gatherPrimes", long.class, long.class, int.class, int.class);
        choose = type.getDeclaredMethod("choose", long.class);
        chosen = type.getDeclaredField("chosen");
        gather.setAccessible(true);
        choose.setAccessible(true);
        chosen.setAccessible(true);
    }

    public static void main(String[] args) throws ReflectiveOperationException {
        int functions = args.length > 1 ? Integer.parseInt(args[1]) : 2500;
        int from = args.length > 2 ? Integer.parseInt(args[2]) : 0;
        CoverTest test = new CoverTest();
        test.checkMost();
        for (int[][] levels : CUBES_FIRST) {
            test.take(levels[0], levels[1]);
            test.check("levels " + test.on);
            Checks.due("levels " + test.on + ": more cubes would have fewer letters",
                test.leastLetters() < test.letters(test.leastSum()) ? 1 : 0, 1);
        }
        for (int seed = from; seed < from + functions; seed++) {
            test.take(new Random(seed));
            test.check("seed " + seed);
        }
        Checks.finish();
    }

    /** Of all six wires an odd number is 1: no two levels share a cube, so there are 32 with 6 letters each. */
    private void checkMost() throws ReflectiveOperationException {
        begin(6);
        List<Integer> due = new ArrayList<>();
        for (int l = 0; l < 64; l++) {
            boolean odd = Integer.bitCount(l) % 2 == 1;
            (odd ? on : off).add(l);
            if (odd) {
                due.add(Integer.parseInt(Integer.toBinaryString(l), 3));
            }
        }
        List<Integer> got = found();
        Checks.due("promise 16, the most cubes: " + got + " for " + due, got.equals(due) ? 1 : 0, 1);
    }

    private void check(String name) throws ReflectiveOperationException {
        List<Integer> due = leastSum();
        List<Integer> got = found();
        Checks.due("promise 16, " + name + ": " + got + " for " + due, got.equals(due) ? 1 : 0, 1);
    }

    private void take(int[] ones, int[] zeros) {
        begin(6);
        for (int l = 0; l < 64; l++) {
            int level = l;
            if (Arrays.stream(ones).anyMatch(x -> x == level)) {
                on.add(l);
            } else if (Arrays.stream(zeros).anyMatch(x -> x == level)) {
                off.add(l);
            }
        }
        findUsable();
    }

    private void take(Random random) {
        begin(1 + random.nextInt(6));
        double told = random.nextDouble();
        double ones = random.nextDouble();
        for (int l = 0; l < 1 << wires; l++) {
            if (random.nextDouble() < told) {
                (on.size() < MOST_LEVELS && random.nextDouble() < ones ? on : off).add(l);
            }
        }
        findUsable();
    }

    private void begin(int wireCount) {
        wires = wireCount;
        cubes = (int) Math.round(Math.pow(3, wires));
        on.clear();
        off.clear();
        usable.clear();
    }

    private void findUsable() {
        for (int c = 0; c < cubes; c++) {
            int cube = c;
            int covers = 0;
            for (int i = 0; i < on.size(); i++) {
                covers |= has(c, on.get(i)) ? 1 << i : 0;
            }
            if (covers != 0 && off.stream().noneMatch(l -> has(cube, l))) {
                usable.add(new int[] {c, covers, letters(c)});
            }
        }
    }

    private boolean has(int cube, int levels) {
        for (int w = 0, rest = cube; w < wires; w++, rest /= 3) {
            if (rest % 3 != 2 && rest % 3 != (levels >> w & 1)) {
                return false;
            }
        }
        return true;
    }

    private int letters(int cube) {
        int found = 0;
        for (int w = 0, rest = cube; w < wires; w++, rest /= 3) {
            found += rest % 3 == 2 ? 0 : 1;
        }
        return found;
    }

    private int letters(List<Integer> sum) {
        return sum.stream().mapToInt(this::letters).sum();
    }

    /** For each set of levels with aim 1 what it takes to have them all, a cube and a letter at a price each. */
    private int[] prices(int ofCube, int ofLetter) {
        int[] least = new int[1 << on.size()];
        for (int set = 1; set < least.length; set++) {
            least[set] = Integer.MAX_VALUE;
            for (int[] u : usable) {
                if ((u[1] & set & -set) != 0) {
                    least[set] = Math.min(least[set], ofCube + ofLetter * u[2] + least[set & ~u[1]]);
                }
            }
        }
        return least;
    }

    private int leastLetters() {
        int[] least = prices(0, 1);
        return least[least.length - 1];
    }

    private List<Integer> leastSum() {
        int[] least = prices(1000, 1);
        List<Integer> taken = new ArrayList<>();
        for (int set = least.length - 1; set != 0; ) {
            int[] next = null;
            for (int[] u : usable) {
                boolean can = (u[1] & set & -set) != 0 && 1000 + u[2] + least[set & ~u[1]] == least[set];
                next = next == null && can ? u : next;
            }
            taken.add(next[0]);
            set &= ~next[1];
        }
        return taken;
    }

    private List<Integer> found() throws ReflectiveOperationException {
        gather.invoke(cover, bits(on), bits(off), wires, cubes);
        int size = (Integer) choose.invoke(cover, bits(on));
        List<Integer> taken = new ArrayList<>();
        for (int i = 0; i < size; i++) {
            taken.add(((int[]) chosen.get(cover))[i]);
        }
        return taken;
    }

    private static long bits(List<Integer> levels) {
        long bits = 0;
        for (int l : levels) {
            bits |= 1L << l;
        }
        return bits;
    }
}

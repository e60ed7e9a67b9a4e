import java.io.IOException;
import java.nio.file.Files;
import java.nio.file.Path;
import java.util.BitSet;
import java.util.List;
import java.util.function.IntUnaryOperator;
import java.util.function.Supplier;
import java.util.function.ToIntFunction;

/**
 * The document's own sentences over the tests of their boundaries: each test stands behind the sentence
 * that it is for and the number of its promise. A sentence that the document does not have is a fault,
 * and so is a word of the terms or of a promise that no test quotes.
 */
final class Bounds {
    static final int BAD = WaitingWires.BAD, STATE = WaitingWires.STATE, FULL = WaitingWires.FULL,
        NONE = WaitingWires.NONE, SPENT = WaitingWires.SPENT;
    static final int MIN = Integer.MIN_VALUE, MAX = Integer.MAX_VALUE;
    static final int[] FAR = {MIN, MIN + 1, MAX - 1, MAX};

    private static final int PROMISES = 31;
    /** Section 0 has the terms, section n promise n. */
    private static final String[] SECTIONS = new String[PROMISES + 1];
    private static final BitSet[] QUOTED = new BitSet[PROMISES + 1];
    private static final int[] SENTENCES = new int[PROMISES + 1];
    private static String head = "";

    private Bounds() { }

    static void read(Path document) throws IOException {
        String all = Files.readString(document).replaceAll("(?m)^```.*$", "");
        String kept = part(all, "An object is used", "## The public face");
        SECTIONS[0] = oneLine(kept + " " + part(all, "Answers: BAD", "Ahead of the calls"));
        for (int n = 1; n <= PROMISES; n++) {
            String section = part(all, "## Promise " + n + ":", "\n## ");
            SECTIONS[n] = oneLine(section.substring(section.indexOf("`: ") + 3));
        }
        for (int n = 0; n <= PROMISES; n++) {
            QUOTED[n] = new BitSet();
        }
    }

    private static String part(String all, String from, String to) {
        int start = all.indexOf(from);
        return all.substring(start, all.indexOf(to, start));
    }

    private static String oneLine(String text) {
        return text.replaceAll("\\s+", " ").trim();
    }

    /** What follows tests a sentence of a promise. */
    static void of(int promise, String sentence) {
        quote(promise, promise, sentence);
    }

    /** What follows tests a sentence of the terms, by the calls of a promise. */
    static void terms(int promise, String sentence) {
        quote(promise, 0, sentence);
    }

    private static void quote(int promise, int section, String sentence) {
        head = "promise " + promise + ", '" + sentence + "': ";
        SENTENCES[promise]++;
        int at = SECTIONS[section].indexOf(sentence);
        Checks.due(head + "stands in the document", at >= 0 ? 1 : 0, 1);
        for (; at >= 0; at = SECTIONS[section].indexOf(sentence, at + 1)) {
            QUOTED[section].set(at, at + sentence.length());
        }
    }

    static void due(String call, long got, long want) {
        Checks.due(head + call, got, want);
    }

    /** A text that must be taken, or what is asked next would be asked of another net. */
    static void tell(WaitingWires x, String text) {
        due("'" + text + "' is taken", Checks.tell(x, text) >= 0 ? 1 : 0, 1);
    }

    /** A call for each of some numbers, all with one answer. */
    static void dueForAll(String call, int[] numbers, IntUnaryOperator ask, int want) {
        for (int i : numbers) {
            due(call + " of " + i, ask.applyAsInt(i), want);
        }
    }

    /**
     * A call is refused and changes nothing: an object on which it was made answers as one does on which
     * it was not, be it asked for the first time or again.
     */
    static void refused(Supplier<WaitingWires> made, String call, ToIntFunction<WaitingWires> ask, int want) {
        WaitingWires with = made.get();
        WaitingWires without = made.get();
        due(call, ask.applyAsInt(with), want);
        List<Integer> before = Look.at(without);
        due(call + " changes nothing", before.equals(Look.at(with)) ? 1 : 0, 1);
        due(call + " again", ask.applyAsInt(with), want);
        due(call + " again changes nothing", before.equals(Look.at(with)) ? 1 : 0, 1);
        due(call + " leaves the tape", Look.atTape(without).equals(Look.atTape(with)) ? 1 : 0, 1);
    }

    /** Every word is quoted, and every promise has a test. */
    static void finish() {
        int sentences = 0;
        for (int n = 0; n <= PROMISES; n++) {
            String left = unquoted(n);
            Checks.due("promise " + n + ": no test for '" + left + "'", left.isEmpty() ? 1 : 0, 1);
            Checks.due("promise " + n + ": has tests", n == 0 || SENTENCES[n] > 0 ? 1 : 0, 1);
            sentences += SENTENCES[n];
        }
        System.out.println(sentences + " sentences of the document");
        Checks.finish();
    }

    private static String unquoted(int section) {
        StringBuilder left = new StringBuilder();
        String text = SECTIONS[section];
        for (int i = 0; i < text.length(); i++) {
            if (!QUOTED[section].get(i)) {
                left.append(text.charAt(i));
            }
        }
        return left.toString().replaceAll("[^A-Za-z0-9]+", " ").trim();
    }
}

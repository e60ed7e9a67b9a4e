import java.nio.charset.StandardCharsets;

/** What the tests share: answers that are due, and texts that are fed to a tape. */
final class Checks {
    private static int wrong = 0;
    private static int asked = 0;

    private Checks() { }

    static void due(String call, long got, long want) {
        asked++;
        if (got != want) {
            wrong++;
            System.out.println(call + " answered " + got + ", due is " + want);
        }
    }

    /** Ends the test: exit code 1 if an answer was not as due. */
    static void finish() {
        System.out.println(asked + " answers, " + wrong + " not as due");
        if (wrong != 0) {
            System.exit(1);
        }
    }

    static int wrongSoFar() {
        return wrong;
    }

    /** The eight bytes from an index on, blanks behind the end. */
    static long eight(byte[] bytes, int from) {
        long v = 0;
        for (int i = 0; i < 8; i++) {
            int b = from + i < bytes.length ? bytes[from + i] & 255 : ' ';
            v = v << 8 | b;
        }
        return v;
    }

    static byte[] bytes(String text) {
        return text.getBytes(StandardCharsets.ISO_8859_1);
    }

    static void put(WaitingWires x, String text) {
        byte[] bytes = bytes(text);
        x.end(0);
        for (int i = 0; i < bytes.length; i += 8) {
            x.feed(eight(bytes, i));
        }
        x.end(bytes.length);
    }

    /** The text alone on the tape, then text(). */
    static int tell(WaitingWires x, String text) {
        put(x, text);
        return x.text();
    }

    static WaitingWires told(String text) {
        WaitingWires x = new WaitingWires();
        int places = tell(x, text);
        if (places < 0) {
            due("text of " + text, places, 0);
        }
        return x;
    }
}

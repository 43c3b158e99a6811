import java.nio.charset.StandardCharsets;

/** What the tests share: counting of checks, and feeding of texts. */
final class Check {
    /** A call that may throw. */
    interface Call {
        Object make();
    }

    private static int passed = 0;
    private static int failed = 0;

    private Check() {
    }

    static void same(String what, Object due, Object got) {
        if (due.equals(got)) {
            passed++;
        } else {
            failed++;
            System.out.println(what + ": due is " + due + ", got " + got);
        }
    }

    static void isThrown(String what, Class<? extends RuntimeException> due, Call call) {
        Object got;
        try {
            got = "the answer " + call.make();
        } catch (RuntimeException e) {
            got = e.getClass();
        }
        same(what, due, got);
    }

    static void index(String what, Call call) {
        isThrown(what, IndexOutOfBoundsException.class, call);
    }

    static void argument(String what, Call call) {
        isThrown(what, IllegalArgumentException.class, call);
    }

    static void state(String what, Call call) {
        isThrown(what, IllegalStateException.class, call);
    }

    /** Puts a text into the (empty) buffer. */
    static void fill(RadioBeacons x, String text) {
        fill(x, text.getBytes(StandardCharsets.ISO_8859_1));
    }

    static void fill(RadioBeacons x, byte[] bytes) {
        int length = 0;
        for (int at = 0; at < bytes.length; at += 20) {
            x.feed(four(bytes, at), four(bytes, at + 4), four(bytes, at + 8), four(bytes, at + 12),
                    four(bytes, at + 16));
            length = Math.min(bytes.length, at + 20);
        }
        x.truncate(length);
    }

    private static int four(byte[] bytes, int from) {
        int sum = 0;
        for (int k = from; k < from + 4; k++) {
            sum = sum << 8 | (k < bytes.length ? bytes[k] & 255 : 0);
        }
        return sum;
    }

    /** A new object that has read a text without an error. */
    static RadioBeacons of(String text) {
        RadioBeacons x = new RadioBeacons();
        fill(x, text);
        x.readText();
        return x;
    }

    static int script(RadioBeacons x, String text) {
        fill(x, text);
        return x.runScript();
    }

    /** Lets a number of slots go by, also more than one run() may. */
    static void pass(RadioBeacons x, int slots) {
        for (int rest = slots; rest > 0; rest -= 99) {
            x.run(Math.min(rest, 99));
        }
    }

    static String reportOf(RadioBeacons x) {
        StringBuilder s = new StringBuilder();
        int length = x.report();
        for (int k = 0; k < length; k++) {
            s.append((char) x.reportByte(k));
        }
        return s.toString();
    }

    static void end() {
        System.out.println(passed + " checks right, " + failed + " wrong");
        if (failed > 0 || passed == 0) {
            System.exit(1);
        }
    }
}

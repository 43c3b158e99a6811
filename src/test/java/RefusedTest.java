import java.util.ArrayList;
import java.util.List;

/**
 * Terms 4, the paragraph behind undo: each refused call throws the exception that is listed first of those that apply,
 * and changes nothing: two objects are made in the same way, one is asked what is refused, and then all of both is held
 * side by side.
 */
final class RefusedTest {
    /** How an object is made. */
    private interface Recipe {
        RadioBeacons make();
    }

    /** A call with a beacon's number. */
    private interface Ask {
        Object ask(RadioBeacons x, int beacon);
    }

    /** A call that is refused. */
    private interface Refused {
        Object ask(RadioBeacons x);
    }

    private static final int[] FAR_OFF = {Integer.MIN_VALUE, -2147483647, -256, -8, -1, 8, 9, 31, 32, 64, 256, Integer.MAX_VALUE};

    private static final List<String> NAMES = new ArrayList<>();
    private static final List<Ask> ASKS = new ArrayList<>();

    private RefusedTest() {
    }

    public static void main(String[] args) {
        calls();
        callsOfTwo();
        callsWithMoreThatIsWrong();
        indexes("a new object", RadioBeacons::new, 0);
        indexes("a busy object", RefusedTest::busy, 3);
        indexes("eight beacons", () -> Check.of(eight()), 8);
        allOfTheNumbersAllowed();
        arguments();
        argumentsFirstForRun();
        states();
        nothingThere();
        textsWithErrors();
        Check.end();
    }

    /** A state in which there is something of all that can be there. */
    private static RadioBeacons busy() {
        RadioBeacons x = Check.of("memory 30;tries 4;" + Scenes.PAIR + "beacon c every 9 at 2 energy 40;near c b;");
        x.run(6);
        x.save();
        x.setTries(3);
        x.report();
        Check.fill(x, "run 5;wake zz;");
        Check.argument("busy: an error", () -> x.runScript());
        Check.fill(x, "run 2;charge a 7;far a b;");
        x.run(8);
        return x;
    }

    private static String eight() {
        StringBuilder s = new StringBuilder();
        for (char c = 'a'; c <= 'h'; c++) {
            s.append("beacon ").append(c).append(" every 9;");
        }
        return s + "near a h;near g h;";
    }

    private static void add(String name, Ask ask) {
        NAMES.add(name);
        ASKS.add(ask);
    }

    private static void calls() {
        add("beacon", (x, b) -> x.beacon(b, 0));
        add("slots", (x, b) -> x.slots(b, 0));
        add("reckoned", (x, b) -> x.reckoned(b));
        add("letter", (x, b) -> x.letter(b, 0));
        add("why", (x, b) -> x.why(b));
        add("dueIn", (x, b) -> x.dueIn(b));
        add("hidden", (x, b) -> x.hidden(b));
        add("ears", (x, b) -> x.ears(b));
        add("window", (x, b) -> x.window(b));
        add("stateIn", (x, b) -> x.stateIn(b, 0));
        add("energyIn", (x, b) -> x.energyIn(b, 0));
        add("outIn", (x, b) -> x.outIn(b));
        add("sendsIn", (x, b) -> x.sendsIn(b));
        add("wellIn", (x, b) -> x.wellIn(b));
        add("bestAt", (x, b) -> x.bestAt(b));
        add("bestEvery", (x, b) -> x.bestEvery(b));
        add("wake", (x, b) -> x.wake(b));
        add("setEvery", (x, b) -> x.setEvery(b, 50));
        add("setAt", (x, b) -> x.setAt(b, 0));
        add("charge", (x, b) -> x.charge(b, 1));
    }

    private static void callsOfTwo() {
        add("heard of", (x, b) -> x.heard(b, 0));
        add("heard the other", (x, b) -> x.heard(0, b));
        add("heard both", (x, b) -> x.heard(b, b));
        add("knows of", (x, b) -> x.knows(b, 0));
        add("knows the other", (x, b) -> x.knows(0, b));
        add("knows both", (x, b) -> x.knows(b, b));
        add("whyNot of", (x, b) -> x.whyNot(b, 0));
        add("whyNot the other", (x, b) -> x.whyNot(0, b));
        add("whyNot both", (x, b) -> x.whyNot(b, b));
        add("hops of", (x, b) -> x.hops(b, 0));
        add("hops the other", (x, b) -> x.hops(0, b));
        add("hops both", (x, b) -> x.hops(b, b));
        add("knowsIn of", (x, b) -> x.knowsIn(b, 0));
        add("knowsIn the other", (x, b) -> x.knowsIn(0, b));
        add("knowsIn both", (x, b) -> x.knowsIn(b, b));
        add("setNear of", (x, b) -> x.setNear(b, 0, true));
        add("setNear of, off", (x, b) -> x.setNear(b, 0, false));
        add("setNear the other", (x, b) -> x.setNear(0, b, true));
        add("setNear the other, off", (x, b) -> x.setNear(0, b, false));
    }

    /** IndexOutOfBoundsException is listed first in all of these. */
    private static void callsWithMoreThatIsWrong() {
        add("beacon what -1", (x, b) -> x.beacon(b, -1));
        add("beacon what 14", (x, b) -> x.beacon(b, 14));
        add("slots state -1", (x, b) -> x.slots(b, -1));
        add("slots state 4", (x, b) -> x.slots(b, 4));
        add("letter -1", (x, b) -> x.letter(b, -1));
        add("stateIn -1", (x, b) -> x.stateIn(b, -1));
        add("stateIn 201", (x, b) -> x.stateIn(b, 201));
        add("energyIn -1", (x, b) -> x.energyIn(b, -1));
        add("energyIn 201", (x, b) -> x.energyIn(b, 201));
        add("setEvery 1", (x, b) -> x.setEvery(b, 1));
        add("setEvery 100", (x, b) -> x.setEvery(b, 100));
        add("setAt -1", (x, b) -> x.setAt(b, -1));
        add("setAt 99", (x, b) -> x.setAt(b, 99));
        add("charge 0", (x, b) -> x.charge(b, 0));
        add("charge 1000", (x, b) -> x.charge(b, 1000));
        add("setNear both, which are the same", (x, b) -> x.setNear(b, b, true));
        add("setNear both, off", (x, b) -> x.setNear(b, b, false));
    }

    private static void indexes(String what, Recipe recipe, int count) {
        String due = Whole.spent(recipe.make());
        for (int k = 0; k < ASKS.size(); k++) {
            Ask ask = ASKS.get(k);
            RadioBeacons x = recipe.make();
            for (int b : FAR_OFF) {
                Check.index("terms 4: " + what + ", " + NAMES.get(k) + ", beacon " + b, () -> ask.ask(x, b));
            }
            Check.index("terms 4: " + what + ", " + NAMES.get(k) + ", behind the last", () -> ask.ask(x, count));
            Check.same("terms 4: " + what + ", nothing changes by " + NAMES.get(k), due, Whole.spent(x));
        }
    }

    /** The first beacon and the last one of eight are beacons to all of these calls. */
    private static void allOfTheNumbersAllowed() {
        int plain = NAMES.indexOf("heard of");
        for (int k = 0; k < plain; k++) {
            for (int b : new int[] {0, 7}) {
                RadioBeacons x = Check.of(eight());
                ASKS.get(k).ask(x, b);
                Check.same("terms 4: " + NAMES.get(k) + " of beacon " + b, 8, x.setting(0));
            }
        }
        RadioBeacons x = Check.of(eight());
        Check.same("terms 4: heard, the last two", RadioBeacons.NONE, x.heard(7, 6));
        Check.same("terms 4: knows, the last two", false, x.knows(6, 7));
        Check.same("terms 4: whyNot, the last two", 5, x.whyNot(7, 6));
        Check.same("terms 4: hops, the first and the last", 1, x.hops(0, 7));
        Check.same("terms 4: hops, the last two", 1, x.hops(6, 7));
        Check.same("terms 4: knowsIn, the last with itself", RadioBeacons.NONE, x.knowsIn(7, 7));
        Check.same("terms 4: setNear, the first and the last", true, x.setNear(7, 0, false));
        Check.same("terms 4: setNear, the last two", false, x.setNear(6, 7, true));
    }

    /** A call that is refused with an exception, asked of an object made by a recipe, of which nothing changes by it. */
    private static void refused(String what, Class<? extends RuntimeException> due, Recipe recipe, Refused call) {
        RadioBeacons x = recipe.make();
        Check.isThrown(what, due, () -> call.ask(x));
        Check.same(what + ", nothing changes", Whole.spent(recipe.make()), Whole.spent(x));
    }

    private static void refusedArgument(String what, Refused call) {
        refused(what, IllegalArgumentException.class, RefusedTest::busy, call);
    }

    private static void arguments() {
        for (int n : new int[] {Integer.MIN_VALUE, -1, 26, 700, Integer.MAX_VALUE}) {
            refusedArgument("3: truncate " + n + " of 25", x -> x.truncate(n));
        }
        for (int what : new int[] {Integer.MIN_VALUE, -1, 11, Integer.MAX_VALUE}) {
            refusedArgument("8: setting " + what, x -> x.setting(what));
        }
        for (int what : new int[] {Integer.MIN_VALUE, -1, 14, Integer.MAX_VALUE}) {
            refusedArgument("9: beacon what " + what, x -> x.beacon(0, what));
        }
        for (int state : new int[] {Integer.MIN_VALUE, -1, 4, Integer.MAX_VALUE}) {
            refusedArgument("10: slots in state " + state, x -> x.slots(2, state));
        }
        for (int slots : new int[] {Integer.MIN_VALUE, -1, 201, Integer.MAX_VALUE}) {
            refusedArgument("26: stateIn " + slots, x -> x.stateIn(0, slots));
            refusedArgument("27: energyIn " + slots, x -> x.energyIn(2, slots));
            refusedArgument("28: collisionsIn " + slots, x -> x.collisionsIn(slots));
        }
        for (int period : new int[] {Integer.MIN_VALUE, -1, 0, 1, 2, 3, 100, Integer.MAX_VALUE}) {
            refusedArgument("38: setEvery " + period + " with first wake 3", x -> x.setEvery(1, period));
        }
        for (int at : new int[] {Integer.MIN_VALUE, -1, 9, 10, Integer.MAX_VALUE}) {
            refusedArgument("39: setAt " + at + " with period 9", x -> x.setAt(2, at));
        }
        for (int by : new int[] {Integer.MIN_VALUE, -1, 0, 1000, Integer.MAX_VALUE}) {
            refusedArgument("40: charge " + by, x -> x.charge(0, by));
        }
        for (int b = 0; b < 3; b++) {
            int same = b;
            refusedArgument("41: setNear with itself, " + b, x -> x.setNear(same, same, true));
            refusedArgument("41: setNear off with itself, " + b, x -> x.setNear(same, same, false));
        }
        for (int tries : new int[] {Integer.MIN_VALUE, -1, 0, 10, Integer.MAX_VALUE}) {
            refusedArgument("42: setTries " + tries, x -> x.setTries(tries));
        }
    }

    /** The last moment but some slots: 99999 less these. */
    private static RadioBeacons nearTheEnd(int slots) {
        RadioBeacons x = Check.of("costs 0 0 0 0;beacon a every 98 at 97;");
        for (int k = 0; k < 25; k++) {
            Check.script(x, "repeat 20(run 99;run 99;);");
        }
        Check.script(x, "repeat 10(run 99;);");
        Check.same("36: the time", 99990, x.setting(2));
        if (slots < 9) {
            x.run(9 - slots);
        }
        return x;
    }

    /** Of both exceptions of run(), IllegalArgumentException is listed first. */
    private static void argumentsFirstForRun() {
        for (int slots : new int[] {Integer.MIN_VALUE, -99999, -1, 0, 100, 99999, Integer.MAX_VALUE}) {
            refusedArgument("36: run " + slots, x -> x.run(slots));
            refused("36: run " + slots + " at the end of time", IllegalArgumentException.class, () -> nearTheEnd(0),
                    x -> x.run(slots));
        }
    }

    private static void states() {
        Class<IllegalStateException> due = IllegalStateException.class;
        refused("2: feed with 700 bytes", due, RefusedTest::fullBuffer, x -> x.feed(0, 0, 0, 0, 0));
        refused("2: feed with 681 bytes", due, () -> cut(681), x -> x.feed(-1, -1, -1, -1, -1));
        refused("36: run 1 at time 99999", due, () -> nearTheEnd(0), x -> x.run(1));
        refused("36: run 99 at time 99999", due, () -> nearTheEnd(0), x -> x.run(99));
        refused("36: run 2 at time 99998", due, () -> nearTheEnd(1), x -> x.run(2));
        refused("36: run 10 at time 99990", due, () -> nearTheEnd(9), x -> x.run(10));
        refused("37: wake one that listens", due, () -> passed(1), x -> x.wake(0));
        refused("37: wake one that waits", due, () -> passed(3), x -> x.wake(0));
        refused("37: wake one that sends", due, () -> passed(4), x -> x.wake(0));
        refused("37: wake one that waits with a fail", due, () -> passed(9), x -> x.wake(1));
        refused("37: wake one that is out", due, RefusedTest::out, x -> x.wake(0));
        refused("47: restore with nothing saved", due, () -> passed(9), x -> x.restore());
        refused("47: restore of a new object", due, RadioBeacons::new, x -> x.restore());
    }

    private static RadioBeacons fullBuffer() {
        RadioBeacons x = Check.of(Scenes.PAIR);
        Check.fill(x, "run 7;charge b 5;" + " ".repeat(676) + "wake a;");
        return x;
    }

    private static RadioBeacons cut(int length) {
        RadioBeacons x = fullBuffer();
        x.truncate(length);
        return x;
    }

    private static RadioBeacons passed(int slots) {
        RadioBeacons x = Check.of(Scenes.PAIR);
        x.run(slots);
        return x;
    }

    private static RadioBeacons out() {
        RadioBeacons x = Check.of("beacon a every 9 energy 3;");
        x.run(3);
        return x;
    }

    private static void nothingThere() {
        Class<IndexOutOfBoundsException> due = IndexOutOfBoundsException.class;
        for (int i : new int[] {Integer.MIN_VALUE, -1, 0, 1, 799, 800, Integer.MAX_VALUE}) {
            refused("44: byte " + i + " of no report", due, RadioBeacons::new, x -> x.reportByte(i));
            refused("44: byte " + i + " of an empty report", due, RefusedTest::emptyReport, x -> x.reportByte(i));
        }
        int length = Whole.latestReport(busy()).length();
        for (int i : new int[] {Integer.MIN_VALUE, -1, length, length + 1, 800, Integer.MAX_VALUE}) {
            refused("44: byte " + i + " of " + length, due, RefusedTest::busy, x -> x.reportByte(i));
        }
        RadioBeacons x = new RadioBeacons();
        String before = Whole.seen(x);
        Check.same("45: nothing to undo", RadioBeacons.NONE, x.undo());
        Check.same("45: nothing changes then", before, Whole.seen(x));
    }

    private static RadioBeacons emptyReport() {
        RadioBeacons x = new RadioBeacons();
        x.report();
        return x;
    }

    /** What is seen of an object but the error, whose line is the first one. */
    private static String butTheError(RadioBeacons x) {
        String s = Whole.spent(x);
        return s.substring(s.indexOf('\n'));
    }

    private static RadioBeacons busyWith(String text) {
        RadioBeacons x = busy();
        x.truncate(0);
        Check.fill(x, text);
        return x;
    }

    /** Of a text or script that has an error, only the buffer and the error change. */
    private static void textsWithErrors() {
        String due = butTheError(busyWith(""));
        String[] texts = {"foo;", "tries 3;tries 0;", "seed 3;seed 4;", "beacon x every 9;near x y;", eight() + "beacon",
            "beacon a every 9 at 8;beacon b every 9;near a b;near b a;", "costs 9 9 9 100;", "memory", "seed 5;\u00ff"};
        for (String text : texts) {
            RadioBeacons x = busyWith(text);
            Check.argument("4: " + text, () -> x.readText());
            Check.argument("4: the buffer is empty, " + text, () -> x.truncate(1));
            Check.same("4: but that nothing changes, " + text, due, butTheError(x));
        }
        String[] scripts = {"run 3;foo;", "run 3;repeat 21();", "run 3;near a a;", "wake a;wake d;", "run 1;".repeat(31),
            "run 3", "run 3;repeat 2(run 1;)", "repeat 2(repeat 2(repeat 2(run 1;);););", "charge a 7;\u0000"};
        for (String script : scripts) {
            RadioBeacons x = busyWith(script);
            Check.argument("5: " + script, () -> x.runScript());
            Check.argument("5: the buffer is empty, " + script, () -> x.truncate(1));
            Check.same("5: but that nothing changes, " + script, due, butTheError(x));
        }
    }
}

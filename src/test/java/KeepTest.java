/** Promises 43 to 47: reports, undo, a saved state. */
final class KeepTest {
    private KeepTest() {
    }

    public static void main(String[] args) {
        reports();
        reportBytes();
        longReport();
        undoOfEach();
        undoOfMany();
        undoKeeps();
        saves();
        restores();
        Check.end();
    }

    /** All that can be seen of an object but what can be undone, the report, the buffer and the error. */
    static String all(RadioBeacons x) {
        StringBuilder s = new StringBuilder();
        for (int what = 0; what < 10; what++) {
            s.append(x.setting(what)).append(' ');
        }
        int count = x.setting(0);
        for (int b = 0; b < count; b++) {
            s.append("| ").append((char) x.letter(b, 0)).append(' ');
            for (int what = 0; what < 14; what++) {
                s.append(x.beacon(b, what)).append(' ');
            }
            for (int state = 0; state < 4; state++) {
                s.append(x.slots(b, state)).append(' ');
            }
            for (int other = 0; other < count; other++) {
                s.append(x.heard(b, other)).append(' ').append(x.whyNot(b, other)).append(' ');
            }
            // what the slots before left behind: holds, and who heard the sending so far
            s.append(x.reckoned(b)).append(' ').append(x.energyIn(b, 20)).append(' ').append(x.wellIn(b)).append(' ');
        }
        return s.toString();
    }

    private static void reports() {
        RadioBeacons x = Check.of(Scenes.PAIR);
        Check.same("43: how long", "a sleeps 0 999\nb sleeps 0 999\n".length(), x.report());
        Check.same("43: at first", "a sleeps 0 999\nb sleeps 0 999\n", Check.reportOf(x));
        x.run(4);
        Check.same("43: sends, listens", "a sends 1 977\nb listens 2 987\n", Check.reportOf(x));
        x.run(2);
        Check.same("43: waits, knows", "a sleeps 0 967\nb waits 1 979 +a\n", Check.reportOf(x));
        RadioBeacons y = Check.of("beacon alpha every 10 at 1 energy 33;beacon b every 10 at 1 listens 9;"
                + "beacon gamma every 10 at 1 listens 9;near alpha b;near b gamma;");
        y.run(9);
        Check.same("43: out", "alpha out 0 0\nb listens 1 954 +alpha\ngamma listens 1 954\n", Check.reportOf(y));
        RadioBeacons z = Check.of(Scenes.HIDDEN);
        z.run(9);
        Check.same("43: knows two, by number", " +a +b\n", Check.reportOf(z).substring(Check.reportOf(z).length() - 7));
        RadioBeacons w = Check.of("beacon a every 9 energy 1;beacon b every 9 energy 10;beacon c every 9 energy 101;"
                + "beacon d every 9 energy 990;");
        Check.same("43: numbers", "a sleeps 0 1\nb sleeps 0 10\nc sleeps 0 101\nd sleeps 0 990\n", Check.reportOf(w));
        w.charge(3, 10);
        w.charge(2, 999);
        Check.same("43: longer numbers", "a sleeps 0 1\nb sleeps 0 10\nc sleeps 0 1100\nd sleeps 0 1000\n",
                Check.reportOf(w));
        Check.same("43: no beacons", 0, new RadioBeacons().report());
    }

    private static void reportBytes() {
        RadioBeacons x = Check.of("beacon a every 9;");
        Check.index("44: no report", () -> x.reportByte(0));
        Check.same("44: its bytes", 15, x.report());
        Check.same("44: the first one", (int) 'a', x.reportByte(0));
        Check.same("44: the last one", 10, x.reportByte(14));
        Check.index("44: behind it", () -> x.reportByte(15));
        Check.index("44: negative", () -> x.reportByte(-1));
        x.run(30);
        Check.same("44: the latest report stays", (int) 's', x.reportByte(2));
        Check.fill(x, "beacon zz every 9;");
        x.readText();
        Check.same("44: behind a text, too", (int) 'a', x.reportByte(0));
        x.report();
        Check.same("44: in place of the one before", (int) 'z', x.reportByte(0));
        Check.fill(x, "");
        x.readText();
        x.report();
        Check.index("44: an empty one in its place", () -> x.reportByte(0));
    }

    private static void longReport() {
        StringBuilder s = new StringBuilder("costs 0 0 0 0;memory 999;");
        for (char c = 'a'; c <= 'h'; c++) {
            s.append("beacon namenam").append(c).append(" every ").append(c - 'a' + 30).append(" listens 9 sends 1;");
        }
        RadioBeacons x = Check.of(s.toString());
        for (int a = 0; a < 8; a++) {
            for (int b = 0; b < a; b++) {
                x.setNear(a, b, true);
            }
            for (int k = 0; k < 10; k++) {
                x.charge(a, 999);
            }
        }
        for (int k = 0; k < 200 && known(x) < 56; k++) {
            Check.script(x, "run 50;");
        }
        Check.same("43: all know all", 56, known(x));
        StringBuilder due = new StringBuilder();
        for (int a = 0; a < 8; a++) {
            due.append("namenam").append((char) ('a' + a)).append(' ');
            due.append(java.util.List.of("sleeps", "listens", "waits", "sends").get(x.beacon(a, 5))).append(' ');
            due.append(x.beacon(a, 6)).append(" 9999");
            for (int b = 0; b < 8; b++) {
                due.append(a == b ? "" : " +namenam" + (char) ('a' + b));
            }
            due.append('\n');
        }
        Check.same("43: the longest lines", due.toString(), Check.reportOf(x));
        Check.same("43: their length", due.length(), x.report());
    }

    private static int known(RadioBeacons x) {
        int sum = 0;
        for (int b = 0; b < 8; b++) {
            sum += Integer.bitCount(x.beacon(b, 10));
        }
        return sum;
    }

    /** A change to be undone. */
    private interface Change {
        void make(RadioBeacons x);
    }

    private static void undoOne(String what, int slots, Change change) {
        RadioBeacons x = Check.of(Scenes.PAIR);
        Check.pass(x, slots);
        int before = x.setting(10);
        String was = all(x);
        change.make(x);
        Check.same("45: it changed, " + what, false, was.equals(all(x)));
        Check.same("45: can still be undone, " + what, before, x.undo());
        Check.same("45: as it was, " + what, was, all(x));
    }

    private static void undoOfEach() {
        int[] slots = {1, 4, 7, 14, 22, 26, 31};
        for (int s : slots) {
            undoOne("run at " + s, s, x -> x.run(9));
            if (s != 4) {
                undoOne("wake at " + s, s, x -> x.wake(x.beacon(0, 5) == 0 ? 0 : 1));
            }
            undoOne("setEvery at " + s, s, x -> x.setEvery(1, 33));
            undoOne("setAt at " + s, s, x -> x.setAt(1, 7));
            undoOne("charge at " + s, s, x -> x.charge(1, 77));
            undoOne("setNear at " + s, s, x -> x.setNear(1, 0, false));
            undoOne("setTries at " + s, s, x -> x.setTries(8));
            undoOne("runScript at " + s, s, x -> Check.script(x, "run 3;charge a 5;every a 90;far a b;run 5;run 0;"));
        }
    }

    private static void undoOfMany() {
        RadioBeacons x = Check.of(Scenes.PAIR);
        String[] was = new String[9];
        for (int k = 0; k < 8; k++) {
            was[k] = Scenes.states(x) + x.setting(9);
            x.run(3);
        }
        Check.same("45: six are kept", 6, x.setting(10));
        for (int k = 7; k >= 2; k--) {
            Check.same("45: how many are left", k - 2, x.undo());
            Check.same("45: the latest first", was[k], Scenes.states(x) + x.setting(9));
        }
        Check.same("45: there is none", RadioBeacons.NONE, x.undo());
        Check.same("45: nothing changes then", was[2], Scenes.states(x) + x.setting(9));
        x.run(3);
        Check.same("45: one again", 1, x.setting(10));
        Check.same("45: it is undone", 0, x.undo());
        Check.same("45: as it was", was[2], Scenes.states(x) + x.setting(9));
        RadioBeacons y = Check.of(Scenes.PAIR);
        y.run(1);
        Check.isThrown("45: an exception", IllegalArgumentException.class, () -> y.run(0));
        Check.same("45: false", false, y.setNear(0, 1, true));
        y.report();
        y.save();
        Check.same("45: these cannot be undone", 1, y.setting(10));
    }

    private static void undoKeeps() {
        RadioBeacons x = Check.of(Scenes.PAIR);
        x.run(1);
        Check.fill(x, "run");
        Check.argument("45: an error", () -> x.runScript());
        x.report();
        Check.fill(x, "run 2;");
        x.save();
        Check.same("45: undone", 0, x.undo());
        Check.same("45: the error stays", 1, x.errorCode());
        Check.same("45: its position stays", 3, x.errorPosition());
        Check.same("45: the report stays", (int) 'l', x.reportByte(2));
        Check.same("45: the buffer stays", 1, x.runScript());
        Check.same("45: and was run", 2, x.setting(2));
        Check.same("45: what is saved stays", 1, x.restore());
        Check.same("4: readText forgets", RadioBeacons.NONE, x.undo());
        x.run(1);
        Check.fill(x, Scenes.PAIR);
        x.readText();
        Check.same("4: readText forgets", RadioBeacons.NONE, x.undo());
    }

    private static void saves() {
        RadioBeacons x = Check.of(Scenes.PAIR);
        Check.same("46: the time", 0, x.save());
        x.run(14);
        String was = all(x);
        Check.same("46: the time then", 14, x.save());
        Check.same("46: no change", was, all(x));
        x.run(40);
        x.setTries(9);
        Check.same("47: the latest one that was saved", 14, x.restore());
        Check.same("47: as it was", was, all(x));
    }

    private static void restores() {
        RadioBeacons x = Check.of("memory 33;tries 5;" + Scenes.PAIR);
        Check.state("47: nothing saved", () -> x.restore());
        x.run(22);
        Check.state("47: nothing saved still", () -> x.restore());
        Check.same("47: the exception changes nothing", 1, x.setting(10));
        x.save();
        String was = all(x);
        x.run(7);
        x.report();
        Check.fill(x, "foo");
        Check.argument("47: an error", () -> x.readText());
        Check.fill(x, "run 2;");
        Check.same("47: the time then", 22, x.restore());
        Check.same("47: as it was", was, all(x));
        Check.same("47: nothing to undo", 0, x.setting(10));
        Check.same("47: nothing to undo", RadioBeacons.NONE, x.undo());
        Check.same("47: the error stays", 1, x.errorCode());
        Check.same("47: its position stays", 0, x.errorPosition());
        Check.same("47: the report stays", (int) 'a', x.reportByte(0));
        Check.same("47: the buffer stays", 1, x.runScript());
        Check.fill(x, "beacon z every 5;");
        x.readText();
        x.run(9);
        Check.same("47: it stays, behind a text too", 22, x.restore());
        Check.same("47: as it was, behind a text too", was, all(x));
        RadioBeacons y = new RadioBeacons();
        y.save();
        Check.fill(y, Scenes.PAIR);
        y.readText();
        Check.same("47: a state without beacons", 0, y.restore());
        Check.same("47: no beacons", 0, y.setting(0));
    }
}

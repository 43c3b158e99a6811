import java.util.ArrayList;
import java.util.List;

/** The boundary cases of undo (Terms 4), reports and the saved state (promises 43 to 47), and of 512 calls. */
final class EdgeKeepTest {
    /** A call that changes something, or does not. */
    private interface Call {
        void make(RadioBeacons x);
    }

    private EdgeKeepTest() {
    }

    public static void main(String[] args) {
        emptyReports();
        reportsOfAllStates();
        reportsOfKnownOnes();
        bytesOfAReport();
        theLatestReportStays();
        undoOfNothing();
        theLatestSixAreKept();
        sixOfEachKind();
        whatCannotBeUndone();
        whatWasRefusedCannotBeUndone();
        whatUndoLeavesAlone();
        readTextAndRestoreForget();
        whatDoesNotForget();
        undoAndChangeInTurn();
        saveAndRestoreNothing();
        inPlaceOfAnEarlierOne();
        whatIsSavedStays();
        whatRestoreLeavesAlone();
        fiveHundredAndTwelveCalls();
        Check.end();
    }

    // ---- reports

    private static void emptyReports() {
        RadioBeacons x = new RadioBeacons();
        Check.index("44: there was no report", () -> x.reportByte(0));
        Check.same("43: no beacons", 0, x.report());
        Check.index("44: no such byte", () -> x.reportByte(0));
        Check.fill(x, "beacon a every 9;");
        x.readText();
        Check.index("44: still the empty one", () -> x.reportByte(0));
        Check.same("43: one beacon", 15, x.report());
        Check.same("44: its last byte", 10, x.reportByte(14));
        Check.fill(x, "");
        x.readText();
        Check.same("44: the latest report stays", 10, x.reportByte(14));
        Check.same("43: no beacons again", 0, x.report());
        Check.index("44: the one before is gone", () -> x.reportByte(0));
    }

    private static void reportsOfAllStates() {
        RadioBeacons x = Check.of("beacon a every 2 listens 1 sends 2 energy 27;beacon bbbbbbbb every 99 energy 3;");
        String[] due = {"a sleeps 0 27\nbbbbbbbb sleeps 0 3\n", "a sleeps 0 26\nbbbbbbbb sleeps 0 2\n",
            "a listens 1 21\nbbbbbbbb sleeps 0 1\n", "a waits 1 18\nbbbbbbbb out 0 0\n", "a sends 1 9\nbbbbbbbb out 0 0\n",
            "a out 0 0\nbbbbbbbb out 0 0\n"};
        for (String report : due) {
            Check.same("43: a line for each beacon", report, Check.reportOf(x));
            Check.same("43: the number of its bytes", report.length(), x.report());
            x.run(1);
        }
        for (int k = 0; k < 11; k++) {
            x.charge(1, 999);
        }
        Check.same("43: the most energy", "a out 0 0\nbbbbbbbb sleeps 0 9999\n", Check.reportOf(x));
        int[] energies = {1, 9, 10, 11, 99, 100, 101, 109, 110, 999};
        for (int energy : energies) {
            RadioBeacons y = Check.of("beacon c every 9 energy " + energy + ";");
            Check.same("43: energy", "c sleeps 0 " + energy + "\n", Check.reportOf(y));
        }
        for (int seed = 0; seed < 60; seed++) {
            RadioBeacons y = Check.of("tries 9;costs 0 0 0 0;seed " + seed + ";beacon a every 99 at 1 listens 1 sends 1;");
            y.run(2);
            for (int k = 0; k < 8; k++) {
                y.run(y.beacon(0, 6));
                Check.same("43: 1 to 32 slots left", "a waits " + y.beacon(0, 6) + " 999\n", Check.reportOf(y));
            }
        }
        RadioBeacons z = Check.of("costs 0 0 0 0;beacon a every 9 at 1 listens 9 sends 9;");
        z.run(1);
        Check.same("43: 9 slots left", "a listens 9 999\n", Check.reportOf(z));
    }

    private static void reportsOfKnownOnes() {
        RadioBeacons x = Check.of("memory 10;" + Scenes.PAIR);
        x.run(5);
        Check.same("43: known at once", "a sleeps 0 968\nb listens 1 982 +a\n", Check.reportOf(x));
        x.setNear(0, 1, false);
        x.run(10);
        Check.same("43: known in the last slot", true, Check.reportOf(x).endsWith(" +a\n"));
        x.run(1);
        Check.same("43: known no more", false, Check.reportOf(x).contains("+"));
        // a and b, by number, though the second one was heard first
        RadioBeacons y = Check.of("costs 0 0 0 0;beacon bb every 50 at 20 listens 1 sends 1;beacon a every 50 at 1 listens 1 sends 1;"
                + "beacon c every 50 at 1 listens 9;near a c;near bb c;");
        y.run(4);
        Check.same("43: one", true, Check.reportOf(y).endsWith(" +a\n"));
        y.wake(0);
        if (y.beacon(2, 5) == 0) {
            y.wake(2);
        }
        y.run(9);
        Check.same("43: two, by number", true, Check.reportOf(y).endsWith(" 999 +bb +a\n"));
    }

    private static void bytesOfAReport() {
        RadioBeacons x = Check.of(Scenes.PAIR);
        x.run(6);
        String due = "a sleeps 0 967\nb waits 1 979 +a\n";
        Check.same("43: its bytes", due.length(), x.report());
        for (int i = -40; i <= 70; i++) {
            int index = i;
            if (i < 0 || i >= due.length()) {
                Check.index("44: byte " + i, () -> x.reportByte(index));
            } else {
                Check.same("44: byte " + i, (int) due.charAt(i), x.reportByte(i));
            }
        }
        // a shorter one in its place
        Check.fill(x, "beacon z every 9;");
        x.readText();
        Check.same("43: a shorter one", 15, x.report());
        Check.same("44: its last byte", 10, x.reportByte(14));
        Check.index("44: not those of the one before", () -> x.reportByte(15));
    }

    private static void theLatestReportStays() {
        RadioBeacons x = Check.of(Scenes.PAIR);
        x.save();
        x.report();
        String due = "a sleeps 0 999\nb sleeps 0 999\n";
        List<Call> calls = changes();
        calls.add(RadioBeacons::undo);
        calls.add(RadioBeacons::save);
        calls.add(RadioBeacons::restore);
        calls.add(y -> y.bestEvery(0));
        calls.add(y -> y.stateIn(0, 200));
        for (Call call : calls) {
            call.make(x);
            Check.same("43: the latest report stays", due, Whole.latestReport(x));
        }
    }

    // ---- undo

    /** A change of each kind, which can be done again and again. */
    private static List<Call> changes() {
        List<Call> all = new ArrayList<>();
        all.add(x -> x.run(1));
        all.add(x -> x.wake(x.beacon(0, 5) == 0 ? 0 : 1));
        all.add(x -> x.setEvery(0, x.beacon(0, 0) + 1));
        all.add(x -> x.setAt(1, (x.beacon(1, 1) + 1) % 10));
        all.add(x -> x.charge(0, 3));
        all.add(x -> x.setNear(0, 1, x.beacon(0, 9) == 0));
        all.add(x -> x.setTries(x.setting(3) % 9 + 1));
        all.add(x -> Check.script(x, "run 2;charge b 4;"));
        all.add(x -> Check.script(x, ""));
        all.add(x -> Check.script(x, "run 0;"));
        return all;
    }

    private static void undoOfNothing() {
        RadioBeacons x = new RadioBeacons();
        String before = Whole.seen(x);
        for (int k = 0; k < 3; k++) {
            Check.same("45: there is none", RadioBeacons.NONE, x.undo());
            Check.same("45: nothing changes", before, Whole.seen(x));
        }
        x.run(1);
        Check.same("45: one", 0, x.undo());
        Check.same("45: none again", RadioBeacons.NONE, x.undo());
        Check.same("45: as before", before, Whole.seen(x));
    }

    private static void theLatestSixAreKept() {
        for (int count = 0; count <= 15; count++) {
            RadioBeacons x = Check.of(Scenes.PAIR);
            List<String> before = new ArrayList<>();
            for (int k = 0; k < count; k++) {
                before.add(Whole.brief(x));
                x.run(2);
            }
            int kept = Math.min(6, count);
            Check.same("45: kept of " + count, kept, x.setting(10));
            for (int k = 1; k <= kept; k++) {
                Check.same("45: still to be undone, of " + count, kept - k, x.undo());
                Check.same("45: the latest first, of " + count, before.get(count - k), Whole.brief(x));
                Check.same("8: changes that can be undone", kept - k, x.setting(10));
            }
            Check.same("45: no more, of " + count, RadioBeacons.NONE, x.undo());
            Check.same("45: no more than six, of " + count, 2 * (count - kept), x.setting(2));
        }
    }

    private static void sixOfEachKind() {
        int kind = 0;
        for (Call change : changes()) {
            // an object cannot be woken seven times
            int times = kind == 1 ? 2 : 7;
            RadioBeacons x = Check.of(Scenes.PAIR);
            List<String> before = new ArrayList<>();
            for (int k = 1; k <= times; k++) {
                before.add(Whole.brief(x));
                change.make(x);
                Check.same("terms 4: kind " + kind + ", " + k, Math.min(6, k), x.setting(10));
            }
            for (int k = times - 1; k >= Math.max(0, times - 6); k--) {
                x.undo();
                Check.same("terms 4: undone, kind " + kind + ", " + k, before.get(k), Whole.brief(x));
            }
            Check.same("terms 4: none is left of kind " + kind, RadioBeacons.NONE, x.undo());
            kind++;
        }
    }

    private static void whatCannotBeUndone() {
        RadioBeacons x = Check.of(Scenes.PAIR);
        x.run(5);
        Call[] calls = {RadioBeacons::report, RadioBeacons::save, y -> y.feed(0, 0, 0, 0, 0), y -> y.truncate(0),
            y -> y.setNear(0, 1, true), y -> y.setNear(1, 0, true), y -> y.stateIn(0, 200), y -> y.bestAt(0),
            y -> y.bestEvery(1), RadioBeacons::allKnownIn, y -> y.setting(10), RadioBeacons::drain};
        for (Call call : calls) {
            call.make(x);
            Check.same("terms 4: no change", 1, x.setting(10));
        }
        Check.same("45: the run", 0, x.undo());
        Check.same("45: the time before it", 0, x.setting(2));
    }

    private static void whatWasRefusedCannotBeUndone() {
        RadioBeacons x = Check.of(Scenes.PAIR);
        x.run(1);
        Check.argument("36: 0", () -> x.run(0));
        Check.state("37: it listens", () -> x.wake(0));
        Check.argument("38: 100", () -> x.setEvery(0, 100));
        Check.argument("39: 10", () -> x.setAt(0, 10));
        Check.argument("40: 0", () -> x.charge(0, 0));
        Check.argument("41: the same", () -> x.setNear(0, 0, true));
        Check.argument("42: 10", () -> x.setTries(10));
        Check.index("37: no beacon", () -> x.wake(2));
        Check.fill(x, "run");
        Check.argument("5: an error", () -> x.runScript());
        Check.same("terms 4: only the one without an exception", 1, x.setting(10));
        Check.same("45: that one", 0, x.undo());
        Check.same("45: the time before it", 0, x.setting(2));
    }

    /** The report, the buffer, the error and what is saved. */
    private static void whatUndoLeavesAlone() {
        RadioBeacons x = Check.of(Scenes.PAIR);
        x.run(3);
        x.report();
        String report = Whole.latestReport(x);
        Check.fill(x, "run 1;wake zz;");
        Check.argument("5: an error", () -> x.runScript());
        Check.fill(x, "run 7;run 7;");
        x.save();
        x.run(20);
        Check.same("45: still one", 1, x.undo());
        Check.same("45: none", 0, x.undo());
        Check.same("45: the time", 0, x.setting(2));
        Check.same("45: the report stays", report, Whole.latestReport(x));
        Check.same("45: the error stays", "4 at 11", x.errorCode() + " at " + x.errorPosition());
        Check.same("45: the buffer stays", 12, x.truncate(12));
        Check.argument("45: the buffer has not grown", () -> x.truncate(13));
        Check.same("45: and holds what it held", "2 14", x.runScript() + " " + x.setting(2));
        Check.same("45: what is saved stays", 3, x.restore());
    }

    private static void readTextAndRestoreForget() {
        for (int changes = 0; changes <= 8; changes++) {
            RadioBeacons x = Check.of(Scenes.PAIR);
            x.save();
            Check.pass(x, 99 * changes);
            Check.same("8: can be undone", Math.min(6, changes), x.setting(10));
            x.restore();
            Check.same("terms 4: restore() forgets " + changes, "0 -1 0", x.setting(10) + " " + x.undo() + " " + x.setting(2));
            Check.pass(x, 99 * changes);
            Check.fill(x, Scenes.HIDDEN);
            x.readText();
            Check.same("terms 4: readText() forgets " + changes, "0 -1 3", x.setting(10) + " " + x.undo() + " " + x.setting(0));
        }
    }

    private static void whatDoesNotForget() {
        RadioBeacons x = Check.of(Scenes.PAIR);
        x.run(3);
        Check.state("47: nothing saved", () -> x.restore());
        Check.same("terms 4: a restore() that throws forgets nothing", 1, x.setting(10));
        Check.fill(x, "seed 3;seed 4;");
        Check.argument("4: an error", () -> x.readText());
        Check.same("terms 4: a readText() that throws forgets nothing", 1, x.setting(10));
        x.save();
        x.report();
        Check.same("terms 4: save() forgets nothing", 1, x.setting(10));
        Check.same("45: undone", "0 0", x.undo() + " " + x.setting(2));
    }

    private static void undoAndChangeInTurn() {
        RadioBeacons x = Check.of(Scenes.PAIR);
        for (int k = 0; k < 8; k++) {
            x.run(1);
        }
        for (int k = 0; k < 3; k++) {
            x.undo();
        }
        Check.same("45: three are left", "3 5", x.setting(10) + " " + x.setting(2));
        for (int k = 0; k < 5; k++) {
            x.run(10);
        }
        Check.same("45: six of eight", "6 55", x.setting(10) + " " + x.setting(2));
        int[] due = {45, 35, 25, 15, 5, 4};
        for (int time : due) {
            x.undo();
            Check.same("45: the latest first", time, x.setting(2));
        }
        Check.same("45: none", RadioBeacons.NONE, x.undo());
        Check.same("45: the states at that time", Scenes.PAIR_SLOTS[3], Scenes.states(x));
    }

    // ---- a saved state

    private static void saveAndRestoreNothing() {
        RadioBeacons x = new RadioBeacons();
        Check.state("47: nothing was saved", () -> x.restore());
        Check.same("46: of nothing", 0, x.save());
        Check.fill(x, Scenes.PAIR);
        x.readText();
        x.run(4);
        Check.same("47: to nothing", 0, x.restore());
        Check.same("47: as a new one", Whole.seen(new RadioBeacons()), Whole.seen(x));
        Check.index("47: without beacons", () -> x.beacon(0, 0));
    }

    private static void inPlaceOfAnEarlierOne() {
        RadioBeacons x = Check.of(Scenes.PAIR);
        for (int k = 1; k <= 9; k++) {
            x.run(k);
            Check.same("46: the time", x.setting(2), x.save());
        }
        x.run(5);
        Check.same("47: the latest one", 45, x.restore());
        Check.same("47: again", 45, x.restore());
        Check.fill(x, "beacon z every 9;");
        x.readText();
        Check.same("46: of another text", 0, x.save());
        x.run(3);
        Check.same("47: of another text", "0 1", x.restore() + " " + x.setting(0));
    }

    private static void whatIsSavedStays() {
        RadioBeacons x = Check.of(Scenes.HIDDEN);
        x.run(6);
        x.save();
        x.restore();
        String due = Whole.seen(x);
        for (int k = 0; k < 3; k++) {
            x.run(17);
            x.setTries(k + 1);
            x.setNear(0, 1, true);
            x.charge(2, 9);
            Check.same("47: it changed", false, due.equals(Whole.seen(x)));
            Check.same("47: the time then", 6, x.restore());
            Check.same("47: as it was saved", due, Whole.seen(x));
        }
        x.run(1);
        Check.same("45: undone to what was restored", 0, x.undo());
        Check.same("45: as it was saved", due, Whole.seen(x));
    }

    /** The buffer, the error and the report. */
    private static void whatRestoreLeavesAlone() {
        RadioBeacons x = Check.of(Scenes.PAIR);
        x.save();
        x.run(3);
        x.report();
        String report = Whole.latestReport(x);
        Check.fill(x, "seed 3;memory 0;");
        Check.argument("4: an error", () -> x.readText());
        Check.fill(x, "run 7;run 7;");
        Check.same("47: the time then", 0, x.restore());
        Check.same("47: the report stays", report, Whole.latestReport(x));
        Check.same("47: the error stays", "2 at 14", x.errorCode() + " at " + x.errorPosition());
        Check.argument("47: the buffer has not grown", () -> x.truncate(13));
        Check.same("47: the buffer stays", "2 14", x.runScript() + " " + x.setting(2));
    }

    /** An object is used for at most 512 calls: the last ones are right as the first ones are. */
    private static void fiveHundredAndTwelveCalls() {
        RadioBeacons x = new RadioBeacons();
        Check.fill(x, Scenes.PAIR);
        x.readText();
        // some nine calls by now
        for (int k = 0; k < 250; k++) {
            x.run(1 + k % 3);
            x.undo();
        }
        Check.same("the 510th call", 2, x.run(13));
        Check.same("the 511th call", "13", "" + x.heard(0, 1));
        Check.same("the 512th call", 0, x.undo());
    }
}

/** Promises 5, 6 and 7: scripts and their errors. */
final class ScriptTest {
    private static final String TWO = "beacon a every 9;beacon b every 9;";

    private ScriptTest() {
    }

    public static void main(String[] args) {
        commands();
        endsAtAnException();
        repeats();
        fortyCommands();
        errors();
        changesNothingByAnError();
        endOfTime();
        Check.end();
    }

    private static void commands() {
        RadioBeacons x = Check.of(TWO);
        Check.same("5: an empty script", 0, x.runScript());
        Check.same("5: it can be undone, too", 1, x.setting(10));
        Check.same("5: run", 1, Check.script(x, "run 99;"));
        Check.same("5: run, the time", 99, x.setting(2));
        x.undo();
        Check.same("5: wake", 1, Check.script(x, "wake b;"));
        Check.same("5: wake, the state", 1, x.beacon(1, 5));
        Check.same("5: wake, the slots left", 2, x.beacon(1, 6));
        Check.same("5: every and at", 2, Check.script(x, "every b 99;at b 98;"));
        Check.same("5: every", 99, x.beacon(1, 0));
        Check.same("5: at", 98, x.beacon(1, 1));
        Check.same("5: charge", 1, Check.script(x, "charge a 999;"));
        Check.same("5: charge, the energy", 1998, x.beacon(0, 4));
        Check.same("5: near", 1, Check.script(x, "near b a;"));
        Check.same("5: near, both", 3, x.beacon(0, 9) + x.beacon(1, 9));
        Check.same("5: far", 1, Check.script(x, "far a b;"));
        Check.same("5: far, both", 0, x.beacon(0, 9) + x.beacon(1, 9));
        Check.same("6: no error", 0, x.errorCode());
        Check.same("7: no error", RadioBeacons.NONE, x.errorPosition());
        RadioBeacons y = Check.of("beacon run every 9;beacon repeat every 9;");
        Check.same("5: any word is a name", 2, Check.script(y, "wake run;wake repeat;"));
        Check.same("5: side by side, with gaps", 2, Check.script(x, " run3\n;\nrepeat1(run 1 ; ) ; "));
        Check.argument("5: the buffer is empty then", () -> x.truncate(1));
    }

    private static void endsAtAnException() {
        String[] ends = {"run 0", "run 100", "run 999", "wake a", "every a 1", "every a 100", "every a 0", "at a 9",
            "charge a 0", "near a b", "far b c", "every c 5", "at b 999"};
        for (String end : ends) {
            RadioBeacons x = Check.of(TWO + "beacon c every 9 at 7;near a b;");
            x.wake(0);
            Check.same("5: ends at " + end, 2, Check.script(x, "run 1;run 1;" + end + ";run 1;charge b 1;"));
            Check.same("5: done before " + end, 2, x.setting(2));
            Check.same("5: not done behind " + end, 2, x.setting(10));
            Check.same("6: no error at " + end, 0, x.errorCode());
            Check.same("5: undone as a whole, " + end, 1, x.undo());
            Check.same("5: undone, the time, " + end, 0, x.setting(2));
        }
        RadioBeacons x = Check.of(TWO);
        Check.same("5: ends in a repeat", 7, Check.script(x, "repeat 2(repeat 3(run 1;);near a b;);run 1;"));
        // once (3 runs and near), once more 3 runs, and near once more returns false
        Check.same("5: ends in a repeat, the time", 6, x.setting(2));
        Check.same("5: ends at the first command", 0, Check.script(x, "near a b;run 1;"));
        Check.same("5: can be undone without a command done", 2, x.setting(10));
    }

    private static void repeats() {
        RadioBeacons x = Check.of(TWO);
        Check.same("5: repeat", 3, Check.script(x, "repeat 3(run 2;);"));
        Check.same("5: repeat, the time", 6, x.setting(2));
        Check.same("5: repeat of nothing", 1, Check.script(x, "repeat 20();run 1;"));
        Check.same("5: repeats one behind the other", 5, Check.script(x, "repeat 2(run 1;);repeat 3(run 1;);"));
        Check.same("5: the time of these", 12, x.setting(2));
        Check.same("5: repeat in a repeat", 2 * (1 + 3 + 1 + 2),
                Check.script(x, "repeat 2(run 1;repeat 3(run 1;);run 1;repeat 2(run 1;););"));
        Check.same("5: the time of these", 26, x.setting(2));
        Check.same("5: repeat once", 1, Check.script(x, "repeat 1(run 1;);"));
        Check.same("5: repeat 20 times", 20, Check.script(x, "repeat 20(run 1;);"));
        Check.same("5: the time of these", 47, x.setting(2));
        StringBuilder empty = new StringBuilder("repeat 20(");
        for (int k = 0; k < 28; k++) {
            empty.append("repeat 20();");
        }
        Check.same("5: many repeats of nothing", 1, Check.script(x, empty + ");run 1;"));
    }

    private static void fortyCommands() {
        RadioBeacons x = Check.of(TWO);
        Check.same("5: 40 commands", 40, Check.script(x, "repeat 20(run 1;run 2;);"));
        Check.same("5: 40 commands, the time", 60, x.setting(2));
        Check.same("5: no more than 40", 40, Check.script(x, "repeat 20(repeat 20(run 1;););run 50;"));
        Check.same("5: no more than 40, the time", 100, x.setting(2));
        Check.same("5: 39 and one that ends it", 39, Check.script(x, "run 1;repeat 19(run 1;run 1;);run 0;run 1;"));
        Check.same("5: 40, none more looked at", 40, Check.script(x, "repeat 20(run 1;run 1;);run 0;"));
        StringBuilder s = new StringBuilder();
        for (int k = 0; k < 30; k++) {
            s.append("run 1;");
        }
        Check.same("5: 30 commands of the text", 30, Check.script(x, s.toString()));
    }

    /** Reads a script that has an error. */
    private static void flaw(String text, int code, int position) {
        RadioBeacons x = Check.of(TWO);
        Check.fill(x, text);
        Check.argument("5: " + text, () -> x.runScript());
        Check.same("6: " + text, code, x.errorCode());
        Check.same("7: " + text, position, x.errorPosition());
        Check.argument("5: the buffer is empty then", () -> x.truncate(1));
        Check.same("5: nothing done", 0, x.setting(2));
        Check.same("5: nothing to undo", 0, x.setting(10));
        x.runScript();
        Check.same("6: none any more", 0, x.errorCode());
        Check.same("7: none any more", RadioBeacons.NONE, x.errorPosition());
    }

    private static String times(int n, String s) {
        StringBuilder all = new StringBuilder();
        for (int k = 0; k < n; k++) {
            all.append(s);
        }
        return all.toString();
    }

    private static void errors() {
        flaw("run", 1, 3);
        flaw("run 1", 1, 5);
        flaw("run 1000;", 1, 4);
        flaw("run a;", 1, 4);
        flaw("run 1;;", 1, 6);
        flaw("run 1;)", 1, 6);
        flaw("beacon a every 9;", 1, 0);
        flaw("seed 1;", 1, 0);
        flaw("wake;", 1, 4);
        flaw("wake 1;", 1, 5);
        flaw("wake a 1;", 1, 7);
        flaw("every a;", 1, 7);
        flaw("every a b;", 1, 8);
        flaw("near a;", 1, 6);
        flaw("near a 1;", 1, 7);
        flaw("repeat (run 1;);", 1, 7);
        flaw("repeat 2 run 1;", 1, 9);
        flaw("repeat 2(run 1;)", 1, 16);
        flaw("repeat 2(run 1;", 1, 15);
        flaw("repeat 2(run 1);", 1, 14);
        flaw("repeat 2(run 1;));", 1, 16);
        flaw("repeat 2(run 1;););", 1, 17);
        flaw("RUN 1;", 1, 0);
        flaw("run 1;\u00ff", 1, 6);
        flaw("repeat 0(run 1;);", 2, 7);
        flaw("repeat 21(run 1;);", 2, 7);
        flaw("near a a;", 3, 7);
        flaw("far b b;", 3, 6);
        flaw("repeat 1(repeat 1(repeat 1(););););", 3, 18);
        flaw("repeat 1(repeat 1(run 1;repeat", 3, 24);
        flaw("wake c;", 4, 5);
        flaw("near a c;", 4, 7);
        flaw("near c a;", 4, 5);
        flaw("far c c;", 4, 4);
        flaw("at c 1;", 4, 3);
        flaw("every wake 1;", 4, 6);
        flaw("charge aa 1;", 4, 7);
        flaw(times(30, "run 1;") + "run 1;", 5, 180);
        flaw(times(30, "run 1;") + "repeat", 5, 180);
        flaw(times(30, "run 1;") + "foo", 1, 180);
        flaw(times(29, "run 1;") + "repeat 2(run 1;);", 5, 183);
        flaw("repeat 2(" + times(29, "run 1;") + "run 1;);", 5, 183);
        flaw("repeat 1(repeat 1(" + times(28, "run 1;") + "repeat 1(););););", 3, 186);
        RadioBeacons x = Check.of(TWO);
        Check.same("5: a repeat counts as one", 29, Check.script(x, times(28, "run 1;") + "repeat 1(run 1;);"));
    }

    private static void changesNothingByAnError() {
        RadioBeacons x = Check.of(TWO);
        x.run(5);
        x.save();
        x.run(2);
        String report = Check.reportOf(x);
        Check.fill(x, "run 5;wake a;run");
        Check.argument("5: an error", () -> x.runScript());
        Check.same("5: the same time", 7, x.setting(2));
        Check.same("5: the same changes to undo", 2, x.setting(10));
        Check.same("5: the same report", report, Check.reportOf(x));
        Check.same("5: the same saved state", 5, x.restore());
    }

    private static void endOfTime() {
        RadioBeacons x = Check.of("costs 0 0 0 0;beacon a every 98 at 97;");
        for (int k = 0; k < 25; k++) {
            Check.same("5: 3960 slots", 40, Check.script(x, "repeat 20(run 99;run 99;);"));
        }
        Check.same("5: the time", 99000, x.setting(2));
        Check.same("5: as many runs as there is time for", 10, Check.script(x, "repeat 20(run 99;);"));
        Check.same("36: the time", 99990, x.setting(2));
        Check.state("36: above 99999", () -> x.run(10));
        Check.argument("36: out of range is said first", () -> x.run(100));
        Check.argument("36: out of range is said first", () -> x.run(0));
        Check.same("36: nothing changed", 99990, x.setting(2));
        Check.same("36: up to 99999", 0, x.run(9));
        Check.state("36: the time is over", () -> x.run(1));
        Check.same("5: no run any more", 0, Check.script(x, "run 1;"));
        // 99999 less 97 is 40 more than a multiple of 98
        Check.same("19: due behind the end of time", 58, x.dueIn(0));
        Check.same("26: what comes goes beyond that", 0, x.stateIn(0, 57));
        Check.same("26: what comes goes beyond that", 1, x.stateIn(0, 58));
        Check.same("32: what comes goes beyond that", true, x.sendsIn(0) > 58);
    }
}

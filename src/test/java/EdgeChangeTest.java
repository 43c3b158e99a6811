/** The boundary cases of the changes (promises 36 to 42): a method for each sentence that names one. */
final class EdgeChangeTest {
    private EdgeChangeTest() {
    }

    public static void main(String[] args) {
        runsOf1To99();
        runsUpToTheEndOfTime();
        wakesTheSleepingAlone();
        wokenAtTheSlotOfItsTimer();
        periodsAboveTheFirstWake();
        firstWakesBelowThePeriod();
        chargesOf1To999();
        chargesTo9999();
        chargesOfThoseThatAreOut();
        nearEachOther();
        whatTheyHeardStays();
        triesOf1To9();
        theSameOnceMore();
        Check.end();
    }

    private static void runsOf1To99() {
        RadioBeacons x = Check.of(Scenes.PAIR);
        int time = 0;
        for (int slots = -3; slots <= 103; slots++) {
            int n = slots;
            if (slots < 1 || slots > 99) {
                Check.argument("36: run " + slots, () -> x.run(n));
            } else {
                x.run(slots);
                time += slots;
            }
            Check.same("36: the time", time, x.setting(2));
        }
    }

    private static void runsUpToTheEndOfTime() {
        RadioBeacons x = Check.of("costs 0 0 0 0;beacon a every 98 at 97;");
        for (int k = 0; k < 25; k++) {
            Check.script(x, "repeat 20(run 99;run 99;);");
        }
        Check.script(x, "repeat 9(run 99;);run 9;");
        Check.same("36: 99 slots before the end", 99900, x.setting(2));
        Check.same("36: the last 99", 0, x.run(99));
        Check.same("36: the time is 99999", 99999, x.setting(2));
        for (int slots : new int[] {1, 2, 98, 99}) {
            Check.state("36: no slot more, " + slots, () -> x.run(slots));
        }
        x.undo();
        x.run(1);
        Check.state("36: one above", () -> x.run(99));
        x.run(97);
        Check.state("36: two above", () -> x.run(3));
        Check.state("36: one above", () -> x.run(2));
        Check.same("36: the last slot", 0, x.run(1));
        Check.same("36: the time is 99999", 99999, x.setting(2));
        Check.same("37: there is more than slots", true, x.charge(0, 1) > 0);
        x.save();
        Check.same("47: restored at the end", 99999, x.restore());
        Check.state("36: still none", () -> x.run(1));
    }

    private static void wakesTheSleepingAlone() {
        RadioBeacons x = Check.of(Scenes.PAIR);
        for (int time = 0; time <= 41; time++) {
            for (int b = 0; b < 2; b++) {
                int one = b;
                if (x.beacon(b, 5) == 0) {
                    String other = Scenes.states(x).substring(5 - 5 * b, 9 - 5 * b);
                    Check.same("37: the time", time, x.wake(b));
                    String due = "1" + x.beacon(b, 2) + "00";
                    Check.same("37: it listens, and did not skip", b == 0 ? due + " " + other : other + " " + due, Scenes.states(x));
                    Check.state("37: not twice", () -> x.wake(one));
                    x.undo();
                } else {
                    Check.state("37: state " + x.beacon(b, 5), () -> x.wake(one));
                }
            }
            x.run(1);
        }
        RadioBeacons y = Check.of("beacon a every 9 energy 1;");
        Check.same("37: with its last energy", 0, y.wake(0));
        y.run(1);
        Check.state("37: out", () -> y.wake(0));
        y.charge(0, 1);
        Check.same("37: charged", 1, y.wake(0));
    }

    private static void wokenAtTheSlotOfItsTimer() {
        // it is awake as its timer is due: nothing is skipped, and it goes on
        RadioBeacons x = Check.of("beacon a every 5 listens 3;");
        x.run(4);
        x.wake(0);
        x.run(1);
        Check.same("37: it goes on listening", "1200", Scenes.states(x));
        // woken behind the slot in which it skipped, it does not skip its next wake for having skipped
        RadioBeacons y = Check.of(Scenes.PAIR);
        y.run(23);
        Check.same("37: b has skipped", 1, y.beacon(1, 8));
        y.wake(1);
        Check.same("37: b did not skip", 0, y.beacon(1, 8));
    }

    private static void periodsAboveTheFirstWake() {
        for (int at = 0; at <= 98; at++) {
            RadioBeacons x = Check.of("beacon a every 99 at " + at + ";");
            int before = 99;
            for (int period = -2; period <= 102; period++) {
                int n = period;
                if (period >= 2 && period <= 99 && period > at) {
                    Check.same("38: the one before " + period, before, x.setEvery(0, period));
                    before = period;
                } else {
                    Check.argument("38: " + period + " with first wake " + at, () -> x.setEvery(0, n));
                }
                Check.same("38: the period", before, x.beacon(0, 0));
                Check.same("38: the first wake stays", at, x.beacon(0, 1));
            }
        }
    }

    private static void firstWakesBelowThePeriod() {
        for (int period = 2; period <= 99; period++) {
            RadioBeacons x = Check.of("beacon a every " + period + ";");
            int before = 0;
            for (int at = -2; at <= 101; at++) {
                int n = at;
                if (at >= 0 && at < period) {
                    Check.same("39: the one before " + at, before, x.setAt(0, at));
                    before = at;
                } else {
                    Check.argument("39: " + at + " with period " + period, () -> x.setAt(0, n));
                }
                Check.same("39: the first wake", before, x.beacon(0, 1));
                Check.same("39: the period stays", period, x.beacon(0, 0));
            }
        }
    }

    private static void chargesOf1To999() {
        for (int by = -2; by <= 1002; by++) {
            RadioBeacons x = Check.of("beacon a every 9 energy 5;");
            int n = by;
            if (by < 1 || by > 999) {
                Check.argument("40: by " + by, () -> x.charge(0, n));
                Check.same("40: nothing changes, " + by, "5 0", x.beacon(0, 4) + " " + x.setting(10));
            } else {
                Check.same("40: by " + by, 5 + by, x.charge(0, by));
                Check.same("40: by " + by, "0 1", x.beacon(0, 13) + " " + x.setting(10));
            }
        }
    }

    private static void chargesTo9999() {
        for (int more = 0; more <= 3; more++) {
            RadioBeacons x = Check.of("beacon a every 9 energy 9;");
            for (int k = 0; k < 9; k++) {
                x.charge(0, 999);
            }
            // 9000 by now
            Check.same("40: 998 and less", 9000 + 996 + more, x.charge(0, 996 + more));
            Check.same("40: at most 9999", Math.min(9999, 9998 + more), x.charge(0, 2));
            Check.same("40: at most 9999", 9999, x.charge(0, 999));
            Check.same("40: no more than that", 9999, x.charge(0, 1));
            x.run(1);
            Check.same("40: less a slot", 9998, x.beacon(0, 4));
            Check.same("40: one more", 9999, x.charge(0, 1));
        }
    }

    private static void chargesOfThoseThatAreOut() {
        // out asleep, listening, waiting, sending, and waiting with a fail
        int[] energies = {1, 6, 9, 18, 21};
        int[] slots = {1, 2, 3, 4, 5};
        for (int k = 0; k < energies.length; k++) {
            RadioBeacons x = Check.of("beacon a every 2 listens 1 sends 1 energy " + energies[k] + ";");
            x.run(slots[k]);
            Check.same("40: out with energy " + energies[k], "40" + (k == 4 ? 1 : 0) + "0", Scenes.states(x));
            Check.same("40: its energy", 1, x.charge(0, 1));
            Check.same("40: asleep with no fails", "0000", Scenes.states(x));
            Check.same("40: none is out", 0, x.setting(8));
            x.undo();
            Check.same("45: out again", "40" + (k == 4 ? 1 : 0) + "0", Scenes.states(x));
        }
        // one energy more: it is not out, and stays as it is
        String[] due = {"0000", "1100", "2100", "2310", "2210"};
        for (int k = 0; k < energies.length; k++) {
            RadioBeacons x = Check.of("beacon a every 2 listens 1 sends 1 energy " + (energies[k] + 1) + ";");
            x.run(slots[k]);
            Check.same("40: not out with energy " + (energies[k] + 1), due[k], Scenes.states(x));
            x.charge(0, 999);
            Check.same("40: one that is not out stays as it is", due[k], Scenes.states(x));
        }
        RadioBeacons y = Check.of(Scenes.PAIR.replace("sends 1;", "sends 1 energy 70;"));
        y.run(24);
        Check.same("40: out, and skipped its last wake", "4001", Scenes.states(y).substring(5));
        y.charge(1, 50);
        Check.same("40: skipped as it was", "0001", Scenes.states(y).substring(5));
        y.run(9);
        Check.same("40: so it does not skip the next one", "1300", Scenes.states(y).substring(5));
    }

    private static void nearEachOther() {
        RadioBeacons x = Check.of(EdgeNowTest.many(8));
        for (int a = 0; a < 8; a++) {
            for (int b = 0; b < 8; b++) {
                int one = a;
                int other = b;
                if (a == b) {
                    Check.argument("41: both are the same", () -> x.setNear(one, other, true));
                    Check.argument("41: both are the same, off", () -> x.setNear(one, other, false));
                    continue;
                }
                String before = Whole.brief(x) + x.setting(10);
                Check.same("41: so already", false, x.setNear(a, b, false));
                Check.same("41: nothing changes", before, Whole.brief(x) + x.setting(10));
                Check.same("41: done", true, x.setNear(a, b, true));
                Check.same("41: both ways", 1 << a, x.beacon(b, 9));
                Check.same("41: both ways", 1 << b, x.beacon(a, 9));
                String behind = Whole.brief(x) + x.setting(10);
                Check.same("41: so already, turned round", false, x.setNear(b, a, true));
                Check.same("41: nothing changes", behind, Whole.brief(x) + x.setting(10));
                Check.same("41: off", true, x.setNear(b, a, false));
                Check.same("41: off both ways", 0, x.beacon(a, 9) + x.beacon(b, 9));
            }
        }
    }

    private static void whatTheyHeardStays() {
        RadioBeacons x = Check.of(Scenes.PAIR);
        x.run(13);
        x.setNear(0, 1, false);
        Check.same("41: heard stays", "13 5", x.heard(0, 1) + " " + x.heard(1, 0));
        Check.same("41: known stays", "true true", x.knows(0, 1) + " " + x.knows(1, 0));
        Check.same("41: as sets", "2 1", x.beacon(0, 10) + " " + x.beacon(1, 10));
        x.setNear(1, 0, true);
        Check.same("41: heard stays", "13 5", x.heard(0, 1) + " " + x.heard(1, 0));
    }

    private static void triesOf1To9() {
        RadioBeacons x = Check.of("tries 5;");
        int before = 5;
        for (int tries = -3; tries <= 13; tries++) {
            int n = tries;
            if (tries < 1 || tries > 9) {
                Check.argument("42: tries " + tries, () -> x.setTries(n));
            } else {
                Check.same("42: the ones before " + tries, before, x.setTries(tries));
                before = tries;
            }
            Check.same("42: the tries", before, x.setting(3));
        }
    }

    /** What is set to what it is already was done, too, and can be undone. */
    private static void theSameOnceMore() {
        RadioBeacons x = Check.of("beacon a every 9 at 3;");
        Check.same("38: the same", 9, x.setEvery(0, 9));
        Check.same("39: the same", 3, x.setAt(0, 3));
        Check.same("42: the same", 3, x.setTries(3));
        Check.same("terms 4: each can be undone", 3, x.setting(10));
        for (int k = 0; k < 10; k++) {
            x.charge(0, 999);
        }
        x.save();
        Check.same("40: full", 9999, x.charge(0, 5));
        Check.same("terms 4: that can be undone, too", 5, x.undo());
    }
}

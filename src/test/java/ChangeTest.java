/** Promises 37 to 42: changes; what each slot does (promise 36) is in SlotTest. */
final class ChangeTest {
    private ChangeTest() {
    }

    public static void main(String[] args) {
        wake();
        setEvery();
        setAt();
        charge();
        setNear();
        setTries();
        Check.end();
    }

    private static void wake() {
        RadioBeacons x = Check.of(Scenes.PAIR);
        Check.same("37: at time 0", 0, x.wake(1));
        Check.same("37: it listens, as long as it does", "0000 1300", Scenes.states(x));
        Check.state("37: it listens", () -> x.wake(1));
        x.run(3);
        Check.state("37: it waits", () -> x.wake(1));
        RadioBeacons y = Check.of(Scenes.PAIR);
        y.run(4);
        Check.state("37: it sends", () -> y.wake(0));
        y.run(20);
        Check.same("37: b skipped", "0001", Scenes.states(y).substring(5));
        Check.same("37: the time", 24, y.wake(1));
        Check.same("37: it did not skip", "1300", Scenes.states(y).substring(5));
        RadioBeacons z = Check.of("beacon a every 9 energy 2;");
        z.run(2);
        Check.state("37: it is out", () -> z.wake(0));
        Check.same("37: nothing to undo by that", 1, z.setting(10));
        Check.index("37: no such beacon", () -> z.wake(1));
        Check.index("37: negative", () -> z.wake(-1));
    }

    private static void setEvery() {
        RadioBeacons x = Check.of("beacon a every 9 at 4;beacon b every 9;");
        Check.same("38: the one before", 9, x.setEvery(0, 5));
        Check.same("38: the one before", 5, x.setEvery(0, 99));
        Check.same("38: the same once more", 99, x.setEvery(0, 99));
        Check.same("38: is set", 99, x.beacon(0, 0));
        Check.same("38: can be undone each time", 3, x.setting(10));
        Check.argument("38: not above its first wake", () -> x.setEvery(0, 4));
        Check.argument("38: too high", () -> x.setEvery(0, 100));
        Check.argument("38: too low", () -> x.setEvery(1, 1));
        Check.argument("38: negative", () -> x.setEvery(1, -9));
        Check.same("38: the lowest", 9, x.setEvery(1, 2));
        Check.same("38: exceptions change nothing", 4, x.setting(10));
        Check.index("38: no such beacon", () -> x.setEvery(2, 5));
        Check.index("38: the beacon is said first", () -> x.setEvery(-1, 100));
        x.run(2);
        Check.same("38: it holds for the timer", "0000 1200", Scenes.states(x));
    }

    private static void setAt() {
        RadioBeacons x = Check.of("beacon a every 9 at 4;beacon b every 9;");
        Check.same("39: the one before", 4, x.setAt(0, 8));
        Check.same("39: the one before", 8, x.setAt(0, 0));
        Check.same("39: the same once more", 0, x.setAt(0, 0));
        Check.argument("39: the period", () -> x.setAt(0, 9));
        Check.argument("39: negative", () -> x.setAt(0, -1));
        Check.same("39: set", 0, x.setAt(0, 3));
        Check.same("39: is set", 3, x.beacon(0, 1));
        Check.same("39: exceptions change nothing", 4, x.setting(10));
        Check.index("39: no such beacon", () -> x.setAt(2, 5));
        Check.index("39: the beacon is said first", () -> x.setAt(-1, 100));
        x.run(3);
        Check.same("39: it holds for the timer", "1200 0000", Scenes.states(x));
    }

    private static void charge() {
        RadioBeacons x = Check.of(Scenes.PAIR);
        Check.same("40: its energy then", 1000, x.charge(0, 1));
        Check.same("40: its energy then", 1999, x.charge(0, 999));
        Check.argument("40: nothing", () -> x.charge(0, 0));
        Check.argument("40: negative", () -> x.charge(0, -1));
        Check.argument("40: too much", () -> x.charge(0, 1000));
        Check.index("40: no such beacon", () -> x.charge(2, 5));
        Check.index("40: the beacon is said first", () -> x.charge(-1, 0));
        Check.same("40: exceptions change nothing", 2, x.setting(10));
        for (int k = 0; k < 8; k++) {
            x.charge(0, 999);
        }
        Check.same("40: what was charged", 9991, x.beacon(0, 4));
        Check.same("40: at most 9999", 9999, x.charge(0, 9));
        Check.same("40: at most 9999", 9999, x.charge(0, 999));
        Check.same("40: nothing was lost", 0, x.beacon(0, 13));
        x.run(3);
        x.charge(1, 5);
        Check.same("40: the state stays", Scenes.PAIR_SLOTS[2], Scenes.states(x));
        x.run(6);
        x.charge(1, 5);
        Check.same("40: the fails stay", Scenes.PAIR_SLOTS[8], Scenes.states(x));
        chargeOut();
    }

    private static void chargeOut() {
        // 4 asleep, 5 listening, 3 waiting, 9 sending, 3 waiting with a fail
        RadioBeacons x = Check.of("beacon a every 5 listens 1 sends 1 energy 24;");
        x.run(8);
        Check.same("40: out with a fail", "4010", Scenes.states(x));
        Check.same("25: a window by it", 4, x.window(0));
        Check.same("40: its energy", 7, x.charge(0, 7));
        Check.same("40: asleep with no fails", "0000", Scenes.states(x));
        Check.same("8: out no more", 0, x.setting(8));
        x.run(2);
        Check.same("40: its timer is due again", 1, x.beacon(0, 5));
        RadioBeacons y = Check.of("beacon a every 10 at 1 listens 2 sends 2;"
                + "beacon b every 10 at 3 listens 3 sends 1 energy 70;near a b;");
        y.run(24);
        Check.same("40: out, having skipped", "4001", Scenes.states(y).substring(5));
        y.charge(1, 100);
        Check.same("40: asleep, having skipped", "0001", Scenes.states(y).substring(5));
        RadioBeacons z = Check.of("beacon a every 9 energy 1;");
        z.run(1);
        z.charge(0, 5);
        Check.same("40: asleep, not having skipped", "0000", Scenes.states(z));
    }

    private static void setNear() {
        RadioBeacons x = Check.of(Scenes.PAIR + "beacon c every 9;");
        Check.same("41: so already", false, x.setNear(0, 1, true));
        Check.same("41: so already, turned round", false, x.setNear(1, 0, true));
        Check.same("41: so already, not near", false, x.setNear(0, 2, false));
        Check.same("41: nothing to undo by that", 0, x.setting(10));
        Check.same("41: near", true, x.setNear(2, 0, true));
        Check.same("41: both ways", "6 1 1", x.beacon(0, 9) + " " + x.beacon(1, 9) + " " + x.beacon(2, 9));
        Check.same("41: not near", true, x.setNear(0, 1, false));
        Check.same("41: both ways", "4 0 1", x.beacon(0, 9) + " " + x.beacon(1, 9) + " " + x.beacon(2, 9));
        Check.same("41: each can be undone", 2, x.setting(10));
        Check.argument("41: the same", () -> x.setNear(1, 1, true));
        Check.argument("41: the same, not near", () -> x.setNear(1, 1, false));
        Check.index("41: no such beacon", () -> x.setNear(3, 0, true));
        Check.index("41: no such other", () -> x.setNear(0, 3, true));
        Check.index("41: the beacons are said first", () -> x.setNear(3, 3, true));
        Check.index("41: negative", () -> x.setNear(-1, -1, true));
        RadioBeacons y = Check.of(Scenes.PAIR);
        y.run(13);
        y.setNear(0, 1, false);
        Check.same("41: what they heard stays", "13 5", y.heard(0, 1) + " " + y.heard(1, 0));
        y.run(1);
        Check.same("41: a is not held any more", "2100", Scenes.states(y).substring(0, 4));
    }

    private static void setTries() {
        RadioBeacons x = Check.of("tries 4;");
        Check.same("42: the ones before", 4, x.setTries(9));
        Check.same("42: the ones before", 9, x.setTries(1));
        Check.same("42: the same once more", 1, x.setTries(1));
        Check.same("42: is set", 1, x.setting(3));
        Check.same("42: can be undone each time", 3, x.setting(10));
        Check.argument("42: too low", () -> x.setTries(0));
        Check.argument("42: too high", () -> x.setTries(10));
        Check.argument("42: negative", () -> x.setTries(-3));
        Check.same("42: exceptions change nothing", 3, x.setting(10));
    }
}

/** Promises 8 to 16: what is there. */
final class NowTest {
    private NowTest() {
    }

    public static void main(String[] args) {
        settings();
        beacons();
        slotsAndEnergy();
        letters();
        heardAndKnown();
        drain();
        knowledge();
        Check.end();
    }

    private static void settings() {
        RadioBeacons x = Check.of(Scenes.PAIR + "beacon c every 9 energy 3;tries 3;memory 50;");
        x.run(26);
        // seven draws: a waits by 1, 5, 6 and 7, b by 2, 3 and 4
        int[] due = {3, 1, 26, 3, 50, 2, 1, 0, 1, -639453696, 1};
        for (int what = 0; what < due.length; what++) {
            Check.same("8: setting " + what, due[what], x.setting(what));
        }
        Check.argument("8: too low", () -> x.setting(-1));
        Check.argument("8: too high", () -> x.setting(11));
        Check.argument("8: far too high", () -> x.setting(Integer.MAX_VALUE));
        RadioBeacons y = Check.of(Scenes.HIDDEN);
        y.run(19);
        Check.same("8: pairs near each other", 2, y.setting(1));
        Check.same("8: went well", 2, y.setting(5));
        Check.same("8: given up", 1, y.setting(6));
        Check.same("8: collisions", 2, y.setting(7));
        for (int k = 0; k < 7; k++) {
            Check.same("8: changes that can be undone", Math.min(6, k + 1), y.setting(10));
            y.run(1);
        }
    }

    private static void beacons() {
        RadioBeacons x = Check.of(Scenes.PAIR);
        x.run(24);
        int[][] due = {{10, 1, 2, 2, 999 - 106, 2, 1, 2, 0, 2, 2, 1, 0, 106},
            {10, 3, 3, 1, 999 - 70, 0, 0, 0, 1, 1, 1, 1, 0, 70}};
        for (int b = 0; b < due.length; b++) {
            for (int what = 0; what < due[b].length; what++) {
                Check.same("9: beacon " + b + " " + what, due[b][what], x.beacon(b, what));
            }
        }
        x.run(2);
        Check.same("9: given up", 1, x.beacon(0, 12));
        Check.argument("9: too low", () -> x.beacon(0, -1));
        Check.argument("9: too high", () -> x.beacon(0, 14));
        Check.index("9: no such beacon", () -> x.beacon(2, 0));
        Check.index("9: negative", () -> x.beacon(-1, 0));
        Check.index("9: the beacon is said first", () -> x.beacon(2, 14));
        // a set of those known holds also one that is not near any more
        x.setNear(0, 1, false);
        Check.same("9: near none", 0, x.beacon(0, 9));
        Check.same("9: knows it still", 2, x.beacon(0, 10));
    }

    private static void slotsAndEnergy() {
        RadioBeacons x = Check.of(Scenes.PAIR);
        x.run(26);
        int[][] due = {{5, 4, 9, 8}, {15, 3, 5, 3}};
        for (int b = 0; b < 2; b++) {
            for (int state = 0; state < 4; state++) {
                Check.same("10: slots " + b + " " + state, due[b][state], x.slots(b, state));
            }
        }
        Check.same("11: a", 5 + 4 * 5 + 9 * 3 + 8 * 9, x.reckoned(0));
        Check.same("11: b", 15 + 3 * 5 + 5 * 3 + 3 * 9, x.reckoned(1));
        Check.argument("10: too low", () -> x.slots(0, -1));
        Check.argument("10: out is no state with slots", () -> x.slots(0, 4));
        Check.index("10: no such beacon", () -> x.slots(2, 0));
        Check.index("10: the beacon is said first", () -> x.slots(-1, 9));
        Check.index("11: no such beacon", () -> x.reckoned(2));
        Check.index("11: negative", () -> x.reckoned(-1));
        RadioBeacons y = Check.of("costs 10 20 30 40;beacon a every 3 energy 50;");
        y.run(9);
        Check.same("11: more than it had", 60, y.reckoned(0));
        Check.same("9: lost what it had", 50, y.beacon(0, 13));
    }

    private static void letters() {
        RadioBeacons x = Check.of("beacon az every 9;beacon zyxwvuts every 9;");
        Check.same("12: first", (int) 'a', x.letter(0, 0));
        Check.same("12: second", (int) 'z', x.letter(0, 1));
        Check.same("12: behind it", 0, x.letter(0, 2));
        Check.same("12: last of eight", (int) 's', x.letter(1, 7));
        Check.same("12: behind eight", 0, x.letter(1, 8));
        Check.same("12: negative", 0, x.letter(1, -1));
        Check.same("12: least", 0, x.letter(1, Integer.MIN_VALUE));
        Check.same("12: greatest", 0, x.letter(1, Integer.MAX_VALUE));
        Check.same("12: 32", 0, x.letter(0, 32));
        Check.index("12: no such beacon", () -> x.letter(2, 0));
        Check.index("12: negative beacon", () -> x.letter(-1, 0));
    }

    private static void heardAndKnown() {
        RadioBeacons x = Check.of(Scenes.PAIR);
        Check.same("13: never", RadioBeacons.NONE, x.heard(1, 0));
        Check.same("14: never", false, x.knows(1, 0));
        x.run(4);
        Check.same("13: not before the end of the sending", RadioBeacons.NONE, x.heard(1, 0));
        x.run(1);
        Check.same("13: at the end of the sending", 5, x.heard(1, 0));
        Check.same("14: at once", true, x.knows(1, 0));
        Check.same("14: not the other way", false, x.knows(0, 1));
        Check.same("13: never itself", RadioBeacons.NONE, x.heard(0, 0));
        Check.same("14: never itself", false, x.knows(0, 0));
        x.setNear(1, 0, false);
        Check.same("13: stays", 5, x.heard(1, 0));
        Check.same("14: near or not", true, x.knows(1, 0));
        Check.pass(x, 99);
        Check.same("14: for 99 slots", true, x.knows(1, 0));
        x.run(1);
        Check.same("14: not longer", false, x.knows(1, 0));
        Check.same("13: stays, not known", 5, x.heard(1, 0));
        Check.index("13: no such beacon", () -> x.heard(2, 0));
        Check.index("13: no such other", () -> x.heard(0, 2));
        Check.index("13: negative", () -> x.heard(0, -1));
        Check.index("14: no such beacon", () -> x.knows(2, 0));
        Check.index("14: no such other", () -> x.knows(0, 2));
        Check.index("14: negative", () -> x.knows(-1, 0));
        // the latest one counts
        RadioBeacons y = Check.of("beacon a every 10 at 1;beacon b every 50 at 1 listens 9;near a b;");
        y.run(5);
        Check.same("13: the first time", 5, y.heard(1, 0));
        y.wake(0);
        y.run(5);
        Check.same("13: the second time", true, y.heard(1, 0) > 5);
    }

    private static void drain() {
        RadioBeacons x = Check.of(Scenes.PAIR);
        Check.same("15: at time 0", 0.0f, x.drain());
        x.run(26);
        Check.same("15: 196 in 26 slots", 196.0f / 26.0f, x.drain());
        RadioBeacons y = new RadioBeacons();
        y.run(3);
        Check.same("15: without beacons", 0.0f, y.drain());
    }

    private static void knowledge() {
        RadioBeacons x = Check.of(Scenes.PAIR + "beacon c every 99 at 98;");
        Check.same("16: nothing known", 0.0, x.knowledge());
        x.run(5);
        Check.same("16: one way", 0.5, x.knowledge());
        x.setNear(2, 0, true);
        Check.same("16: one of four", 0.25, x.knowledge());
        x.setNear(1, 2, true);
        Check.same("16: one of six", 1.0 / 6.0, x.knowledge());
        x.setNear(0, 1, false);
        Check.same("16: not near, though known", 0.0, x.knowledge());
        RadioBeacons y = Check.of("beacon a every 9;beacon b every 9;");
        Check.same("16: none near each other", 0.0, y.knowledge());
        Check.same("16: no beacons", 0.0, new RadioBeacons().knowledge());
        RadioBeacons z = Check.of(Scenes.PAIR);
        z.run(13);
        Check.same("16: both ways", 1.0, z.knowledge());
    }
}

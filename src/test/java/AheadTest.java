/** Promises 26 to 35: what comes. */
final class AheadTest {
    /** Beacons whose wakes drift towards each other: b hears a first at 395. */
    private static final String DRIFT = "costs 0 0 0 0;tries 1;seed 1;beacon a every 98 listens 1 sends 1;"
            + "beacon b every 97 at 7 listens 1 sends 1;near a b;";

    private AheadTest() {
    }

    public static void main(String[] args) {
        states();
        energies();
        collisions();
        knowing();
        allKnown();
        out();
        sends();
        well();
        asThingsAre();
        bestAt();
        bestEvery();
        changesNothing();
        Check.end();
    }

    private static void states() {
        RadioBeacons x = Check.of(Scenes.PAIR);
        Check.same("26: now", 0, x.stateIn(0, 0));
        for (int k = 0; k < Scenes.PAIR_SLOTS.length; k++) {
            String due = Scenes.PAIR_SLOTS[k];
            Check.same("26: a in " + (k + 1), due.charAt(0) - '0', x.stateIn(0, k + 1));
            Check.same("26: b in " + (k + 1), due.charAt(5) - '0', x.stateIn(1, k + 1));
        }
        Check.argument("26: negative", () -> x.stateIn(0, -1));
        Check.argument("26: too far", () -> x.stateIn(0, 201));
        Check.index("26: no such beacon", () -> x.stateIn(2, 0));
        Check.index("26: the beacon is said first", () -> x.stateIn(-1, 201));
        RadioBeacons y = Check.of("beacon a every 9 at 8 energy 7;");
        Check.same("26: out", 4, y.stateIn(0, 7));
        Check.same("26: as far as may be", 4, y.stateIn(0, 200));
    }

    private static void energies() {
        RadioBeacons x = Check.of(Scenes.PAIR);
        Check.same("27: now", 999, x.energyIn(0, 0));
        Check.same("27: a in 26", 999 - 124, x.energyIn(0, 26));
        Check.same("27: b in 26", 999 - 72, x.energyIn(1, 26));
        x.run(20);
        Check.same("27: from then on", 999 - 124, x.energyIn(0, 6));
        Check.argument("27: negative", () -> x.energyIn(0, -1));
        Check.argument("27: too far", () -> x.energyIn(0, 201));
        Check.index("27: no such beacon", () -> x.energyIn(2, 0));
        Check.index("27: the beacon is said first", () -> x.energyIn(2, 201));
        RadioBeacons y = Check.of("costs 2 0 0 0;beacon a every 99 at 98 energy 199;");
        Check.same("27: all but five, and listening costs nothing", 5, y.energyIn(0, 98));
        Check.same("27: as far as may be", 0, y.energyIn(0, 200));
    }

    private static void collisions() {
        RadioBeacons x = Check.of(Scenes.HIDDEN);
        int[] due = {0, 0, 0, 1, 2, 2, 2};
        for (int k = 0; k < due.length; k++) {
            Check.same("28: in " + k, due[k], x.collisionsIn(k));
        }
        x.run(3);
        Check.same("28: only those that come", 0, x.collisionsIn(0));
        Check.same("28: only those that come", 1, x.collisionsIn(1));
        Check.argument("28: negative", () -> x.collisionsIn(-1));
        Check.argument("28: too far", () -> x.collisionsIn(201));
        int all = x.collisionsIn(200);
        int before = x.setting(7);
        Check.pass(x, 200);
        Check.same("28: as many as come", before + all, x.setting(7));
        Check.same("28: no beacons", 0, new RadioBeacons().collisionsIn(200));
    }

    private static void knowing() {
        RadioBeacons x = Check.of(Scenes.PAIR);
        Check.same("29: b knows a", 5, x.knowsIn(1, 0));
        Check.same("29: a knows b", 13, x.knowsIn(0, 1));
        Check.same("29: never itself", RadioBeacons.NONE, x.knowsIn(0, 0));
        x.run(5);
        Check.same("29: now", 0, x.knowsIn(1, 0));
        Check.same("29: not now", 8, x.knowsIn(0, 1));
        x.setNear(0, 1, false);
        Check.same("29: known now, though not near", 0, x.knowsIn(1, 0));
        Check.same("29: never", RadioBeacons.NONE, x.knowsIn(0, 1));
        Check.index("29: no such beacon", () -> x.knowsIn(2, 0));
        Check.index("29: no such other", () -> x.knowsIn(0, 2));
        Check.index("29: negative", () -> x.knowsIn(-1, 0));
        RadioBeacons y = Check.of(DRIFT);
        y.run(94);
        Check.same("29: in 301", RadioBeacons.NONE, y.knowsIn(1, 0));
        y.run(1);
        Check.same("29: in 300", 300, y.knowsIn(1, 0));
    }

    private static void allKnown() {
        RadioBeacons x = Check.of(Scenes.PAIR + "beacon c every 9;");
        Check.same("30: when both know each other", 13, x.allKnownIn());
        x.run(13);
        Check.same("30: now", 0, x.allKnownIn());
        x.setNear(0, 2, true);
        Check.same("30: not now", true, x.allKnownIn() != 0);
        RadioBeacons y = Check.of(Scenes.PAIR + "beacon c every 9 energy 1;near a c;");
        Check.same("30: one that is out is never known", RadioBeacons.NONE, y.allKnownIn());
        Check.same("30: no beacons", 0, new RadioBeacons().allKnownIn());
        Check.same("30: none near each other", 0, Check.of("beacon a every 9;beacon b every 9;").allKnownIn());
        // a skips every other of its wakes then, and so b hears it in slot 590
        RadioBeacons z = aKnowsB();
        Check.pass(z, 580);
        Check.same("30: b does not know a yet", false, z.knows(1, 0));
        z.run(1);
        Check.same("30: now all know all", true, z.knows(1, 0));
        RadioBeacons w = aKnowsB();
        Check.pass(w, 590 - 9 - 301);
        Check.same("30: in 301", RadioBeacons.NONE, w.allKnownIn());
        w.run(1);
        Check.same("30: in 300", 300, w.allKnownIn());
    }

    /** The beacons of DRIFT at time 9, when a was woken in time to hear b, and does not forget it. */
    private static RadioBeacons aKnowsB() {
        RadioBeacons x = Check.of("memory 999;" + DRIFT);
        x.run(8);
        x.wake(0);
        x.run(1);
        Check.same("30: a knows b", true, x.knows(0, 1));
        return x;
    }

    private static void out() {
        RadioBeacons x = Check.of("costs 1 1 1 1;beacon a every 9 energy 300;beacon b every 9 energy 301;beacon c every 9 energy 1;");
        Check.same("31: in 300", 300, x.outIn(0));
        Check.same("31: in 301", RadioBeacons.NONE, x.outIn(1));
        Check.same("31: in 1", 1, x.outIn(2));
        x.run(1);
        Check.same("31: now", 0, x.outIn(2));
        Check.same("31: in 300 then", 300, x.outIn(1));
        Check.index("31: no such beacon", () -> x.outIn(3));
        Check.index("31: negative", () -> x.outIn(-1));
    }

    private static void sends() {
        RadioBeacons x = Check.of(Scenes.PAIR);
        Check.same("32: a", 4, x.sendsIn(0));
        Check.same("32: b, whose sending ends by that", 7, x.sendsIn(1));
        x.run(3);
        Check.same("32: in the next slot", 1, x.sendsIn(0));
        x.run(1);
        Check.same("32: now", 0, x.sendsIn(0));
        x.run(1);
        Check.same("32: its next one", 11, x.sendsIn(0));
        x.run(2);
        Check.same("32: not the one that ended now", 2, x.sendsIn(1));
        Check.index("32: no such beacon", () -> x.sendsIn(2));
        Check.index("32: negative", () -> x.sendsIn(-1));
        Check.same("32: never", RadioBeacons.NONE, Check.of("beacon a every 9 energy 7;").sendsIn(0));
        // out by the very slot in which it would send: it does not have the state at d
        Check.same("32: out at once", RadioBeacons.NONE, Check.of("beacon a every 9 at 1 energy 22;").sendsIn(0));
        Check.same("32: with one energy more", 4, Check.of("beacon a every 9 at 1 energy 23;").sendsIn(0));
    }

    private static void well() {
        RadioBeacons x = Check.of(Scenes.PAIR);
        Check.same("33: a", 5, x.wellIn(0));
        Check.same("33: b", 13, x.wellIn(1));
        x.run(4);
        Check.same("33: a", 1, x.wellIn(0));
        x.run(1);
        Check.same("33: the next one", true, x.wellIn(0) > 1);
        Check.index("33: no such beacon", () -> x.wellIn(2));
        Check.index("33: negative", () -> x.wellIn(-1));
        Check.same("33: never", RadioBeacons.NONE, Check.of("beacon a every 9;").wellIn(0));
        RadioBeacons y = Check.of(DRIFT);
        y.run(94);
        Check.same("33: in 301", RadioBeacons.NONE, y.wellIn(0));
        y.run(1);
        Check.same("33: in 300", 300, y.wellIn(0));
    }

    /** What comes starts with all there is: slots left, holds, fails, reasons and draws. */
    private static void asThingsAre() {
        String[] scenes = {Scenes.PAIR, Scenes.HIDDEN, Scenes.TWINS};
        for (String scene : scenes) {
            RadioBeacons x = Check.of(scene);
            for (int k = 0; k < 20; k++) {
                StringBuilder due = new StringBuilder();
                for (int slots = 1; slots <= 3; slots++) {
                    due.append(x.stateIn(0, slots)).append(x.stateIn(1, slots)).append(' ');
                }
                StringBuilder got = new StringBuilder();
                for (int slots = 1; slots <= 3; slots++) {
                    x.run(1);
                    got.append(x.beacon(0, 5)).append(x.beacon(1, 5)).append(' ');
                }
                Check.same("26: as it comes", got.toString(), due.toString());
                x.undo();
                x.undo();
            }
        }
    }

    private static void bestAt() {
        String text = Scenes.HIDDEN + "beacon d every 7 at 6;near d c;";
        for (int b = 0; b < 4; b++) {
            RadioBeacons x = Check.of(text);
            x.run(2);
            int best = RadioBeacons.NONE;
            int fewest = Integer.MAX_VALUE;
            for (int at = 0; at < x.beacon(b, 0); at++) {
                x.setAt(b, at);
                int collisions = x.collisionsIn(100);
                x.undo();
                if (collisions < fewest) {
                    best = at;
                    fewest = collisions;
                }
            }
            Check.same("34: beacon " + b, best, x.bestAt(b));
        }
        for (int seed : new int[] {895, 573}) {
            hundredSlotsOfAt(seed);
        }
        Check.same("34: all the same", 0, Check.of("beacon a every 9 at 7;").bestAt(0));
        RadioBeacons x = Check.of(Scenes.HIDDEN);
        Check.same("34: with 1 they collide, with 0 they do not in 20 slots", true, x.bestAt(0) != 1);
        Check.index("34: no such beacon", () -> x.bestAt(3));
        Check.index("34: negative", () -> x.bestAt(-1));
    }

    /** Texts of which 99 slots or 101 slots would give another answer than 100. */
    private static void hundredSlotsOfAt(int seed) {
        RadioBeacons x = Check.of(seed == 895
                ? "seed 895;beacon a every 11 listens 3 sends 2;beacon b every 3 listens 1 sends 3;"
                + "beacon c every 9 listens 1 sends 2;beacon d every 6 listens 3 sends 2;beacon e every 5;"
                + "beacon f every 4 listens 1 sends 1;beacon g every 6 listens 3 sends 2;near b a;near c b;near d b;near e a;"
                + "near e c;near f a;near f b;near f d;near f e;near g a;near g c;near g e;"
                : "seed 573;beacon a every 6;beacon b every 7 listens 5 sends 1;beacon c every 8 listens 1 sends 3;"
                + "beacon d every 13 listens 5 sends 3;beacon e every 14 listens 5 sends 1;"
                + "beacon f every 7 listens 2 sends 3;beacon g every 8 listens 2 sends 3;near b a;near c a;near c b;"
                + "near d b;near e a;near f a;near f e;near g b;near g c;near g e;");
        int[] fewest = {Integer.MAX_VALUE, Integer.MAX_VALUE, Integer.MAX_VALUE};
        int[] best = {RadioBeacons.NONE, RadioBeacons.NONE, RadioBeacons.NONE};
        for (int at = 0; at < x.beacon(0, 0); at++) {
            x.setAt(0, at);
            for (int k = 0; k < 3; k++) {
                if (x.collisionsIn(99 + k) < fewest[k]) {
                    fewest[k] = x.collisionsIn(99 + k);
                    best[k] = at;
                }
            }
            x.undo();
        }
        Check.same("34: in 100 slots, seed " + seed, best[1], x.bestAt(0));
        Check.same("34: not in 99 or 101, seed " + seed, true, best[0] != best[1] && best[1] != best[2]);
    }

    /** The period for which the most go well in some slots, tried one by one. */
    private static int bestPeriod(String text, int firstWake, int slots) {
        int best = RadioBeacons.NONE;
        int most = -1;
        for (int period = Math.max(2, firstWake + 1); period <= 99; period++) {
            RadioBeacons x = Check.of(text.replace("EVERY", "every " + period + " at " + firstWake));
            int well = x.run(slots - 9) + x.run(9);
            if (well >= most) {
                best = period;
                most = well;
            }
        }
        return best;
    }

    private static void hundredSlotsOfEvery() {
        String[] texts = {
            "seed 22;beacon a EVERY;beacon b every 3;beacon c every 13 listens 5;near a c;near b c;",
            "seed 75;beacon a EVERY;beacon b every 2;beacon c every 12 listens 5;near a c;near b c;",
            "seed 58;beacon a EVERY;beacon b every 3;beacon c every 2 listens 5;near a c;near b c;",
        };
        for (String text : texts) {
            int best = bestPeriod(text, 0, 100);
            Check.same("35: in 100 slots", best, Check.of(text.replace("EVERY", "every 9")).bestEvery(0));
            Check.same("35: not in 99", true, best != bestPeriod(text, 0, 99));
            Check.same("35: not in 101", true, best != bestPeriod(text, 0, 101));
        }
        // timers as often as every 11 or 3 slots would be better still, were they above the first wake
        String[] others = {
            "seed 81;beacon a EVERY;beacon b every 3;beacon c every 13 listens 5;near a c;near b c;",
            "seed 41;beacon a EVERY;beacon b every 6;beacon c every 3 listens 5;near a c;near b c;",
        };
        int[] firstWakes = {11, 3};
        for (int k = 0; k < 2; k++) {
            RadioBeacons x = Check.of(others[k].replace("EVERY", "every 99 at " + firstWakes[k]));
            Check.same("35: above its first wake", bestPeriod(others[k], firstWakes[k], 100), x.bestEvery(0));
        }
    }

    private static void bestEvery() {
        hundredSlotsOfEvery();
        String text = Scenes.PAIR + "beacon c every 7 at 6;near a c;";
        for (int b = 0; b < 3; b++) {
            RadioBeacons x = Check.of(text);
            x.run(2);
            int best = RadioBeacons.NONE;
            int most = -1;
            for (int period = x.beacon(b, 1) + 1; period <= 99; period++) {
                if (period < 2) {
                    continue;
                }
                x.setEvery(b, period);
                int well = x.run(99) + x.run(1);
                x.undo();
                x.undo();
                x.undo();
                if (well >= most) {
                    best = period;
                    most = well;
                }
            }
            Check.same("35: beacon " + b, best, x.bestEvery(b));
        }
        Check.same("35: all the same", 99, Check.of("beacon a every 9 at 7;").bestEvery(0));
        Check.same("35: above its first wake", 99, Check.of("beacon a every 99 at 98;").bestEvery(0));
        // two sendings each in 100 slots by the longest timer; a sleeper cannot hear more
        RadioBeacons x = Check.of("beacon a every 9 at 1 listens 1 sends 1;beacon b every 99 at 0 listens 9;near a b;");
        Check.same("35: rather many than few", true, x.bestEvery(0) < 99);
        Check.index("35: no such beacon", () -> x.bestEvery(2));
        Check.index("35: negative", () -> x.bestEvery(-1));
    }

    private static void changesNothing() {
        RadioBeacons x = Check.of(Scenes.HIDDEN);
        x.run(6);
        x.report();
        String before = KeepTest.all(x);
        x.stateIn(0, 200);
        x.energyIn(0, 200);
        x.collisionsIn(200);
        x.knowsIn(0, 1);
        x.allKnownIn();
        x.outIn(0);
        x.sendsIn(0);
        x.wellIn(0);
        x.bestAt(0);
        x.bestEvery(0);
        Check.same("26 to 35: nothing changes by asking", before, KeepTest.all(x));
        Check.same("26 to 35: the undo stays", 1, x.setting(10));
    }
}

/** The boundary cases of what comes (promises 26 to 35): a method for each sentence that names one. */
final class EdgeAheadTest {
    private static final String FREE = "costs 0 0 0 0;";

    /** Beacons whose wakes drift towards each other: b hears a first at 395. */
    private static final String DRIFT = "costs 0 0 0 0;tries 1;seed 1;memory 999;beacon a every 98 listens 1 sends 1;"
            + "beacon b every 97 at 7 listens 1 sends 1;near a b;";

    /** Some that send, wait, collide, fail, give up, skip and go out. */
    private static final String LIVELY = "memory 25;tries 2;beacon a every 7 listens 1 sends 3;beacon b every 11 at 4 listens 4 sends 1;"
            + "beacon c every 5 at 2 energy 200;beacon d every 13 at 12 listens 9;beacon e every 3 sends 1 energy 150;"
            + "near a b;near b c;near c d;near a d;near d e;near b d;";

    private EdgeAheadTest() {
    }

    public static void main(String[] args) {
        inNoSlots();
        inUpTo200Slots();
        outsideOf0To200();
        knowsInUpTo300();
        allKnownInUpTo300();
        outInUpTo300();
        sendsInUpTo300();
        sendsNow();
        wellInOneTo300();
        bestAtFromTheFirstToTheLast();
        bestAtTheLowestOfSeveral();
        bestAtIn100Slots();
        bestEveryIn100Slots();
        bestEveryFromTheLeastToTheMost();
        bestEveryTheGreatestOfSeveral();
        bestsOfOneThatIsOut();
        nothingChangesByAsking();
        Check.end();
    }

    private static void inNoSlots() {
        RadioBeacons x = Check.of(LIVELY);
        for (int time = 0; time <= 150; time++) {
            for (int b = 0; b < 5; b++) {
                Check.same("26: in no slots, time " + time, x.beacon(b, 5), x.stateIn(b, 0));
                Check.same("27: in no slots, time " + time, x.beacon(b, 4), x.energyIn(b, 0));
            }
            Check.same("28: in no slots, time " + time, 0, x.collisionsIn(0));
            x.run(1);
        }
        Check.same("28: there were some", true, x.setting(7) > 5);
        Check.same("28: without beacons", 0, new RadioBeacons().collisionsIn(0));
        Check.same("28: without beacons", 0, new RadioBeacons().collisionsIn(200));
    }

    private static void inUpTo200Slots() {
        for (int start : new int[] {0, 1, 17, 40}) {
            RadioBeacons asked = Check.of(LIVELY);
            RadioBeacons run = Check.of(LIVELY);
            if (start > 0) {
                asked.run(start);
                run.run(start);
            }
            int collisions = run.setting(7);
            // in three parts, so that no object is asked more than 512 times
            for (int slots = 1; slots <= 200; slots++) {
                if (slots == 70 || slots == 140) {
                    asked = Check.of(LIVELY);
                    Check.pass(asked, start);
                }
                run.run(1);
                int b = slots % 5;
                // each is asked behind another number of slots, which leaves nothing behind
                asked.collisionsIn(200 - slots);
                Check.same("26: in " + slots, run.beacon(b, 5), asked.stateIn(b, slots));
                asked.stateIn(b, 200 - slots);
                Check.same("27: in " + slots, run.beacon(b, 4), asked.energyIn(b, slots));
                asked.energyIn(b, 200 - slots);
                Check.same("28: in " + slots, run.setting(7) - collisions, asked.collisionsIn(slots));
            }
        }
    }

    private static void outsideOf0To200() {
        RadioBeacons x = Check.of(LIVELY);
        for (int slots : new int[] {Integer.MIN_VALUE, -200, -1, 201, 300, Integer.MAX_VALUE}) {
            Check.argument("26: in " + slots, () -> x.stateIn(4, slots));
            Check.argument("27: in " + slots, () -> x.energyIn(4, slots));
            Check.argument("28: in " + slots, () -> x.collisionsIn(slots));
            Check.argument("28: without beacons in " + slots, () -> new RadioBeacons().collisionsIn(slots));
        }
        Check.same("26: in 200", true, x.stateIn(4, 200) == 4);
        Check.same("27: in 200", 0, x.energyIn(4, 200));
    }

    // ---- 0 to 300 slots

    private static RadioBeacons at(String text, int time) {
        RadioBeacons x = Check.of(text);
        Check.pass(x, time);
        return x;
    }

    private static void knowsInUpTo300() {
        int[] times = {94, 95, 96, 394, 395, 396};
        int[] due = {RadioBeacons.NONE, 300, 299, 1, 0, 0};
        for (int k = 0; k < times.length; k++) {
            Check.same("29: at " + times[k], due[k], at(DRIFT, times[k]).knowsIn(1, 0));
        }
        RadioBeacons x = Check.of("memory 1;" + Scenes.PAIR);
        Check.same("29: it comes", 5, x.knowsIn(1, 0));
        x.run(6);
        Check.same("29: known in the last slot of its memory", 0, x.knowsIn(1, 0));
        x.run(1);
        Check.same("29: it comes again", true, x.knowsIn(1, 0) > 0);
        for (int b = 0; b < 2; b++) {
            Check.same("29: never itself", RadioBeacons.NONE, x.knowsIn(b, b));
        }
        RadioBeacons y = Check.of("beacon a every 9;");
        Check.same("29: one alone, itself", RadioBeacons.NONE, y.knowsIn(0, 0));
    }

    /** The beacons of DRIFT, when a was woken in time to hear b, at a time from 9 on: b hears a at 590. */
    private static RadioBeacons aKnowsB(int time) {
        RadioBeacons x = at(DRIFT, 8);
        x.wake(0);
        Check.pass(x, time - 8);
        return x;
    }

    private static void allKnownInUpTo300() {
        Check.same("30: b hears a", "590", "" + aKnowsB(590).heard(1, 0));
        int[] times = {289, 290, 291, 589, 590};
        int[] due = {RadioBeacons.NONE, 300, 299, 1, 0};
        for (int k = 0; k < times.length; k++) {
            Check.same("30: at " + times[k], due[k], aKnowsB(times[k]).allKnownIn());
        }
        // the first one is the last to know, and the last one is
        Check.same("30: each beacon", 13, Check.of(Scenes.PAIR).allKnownIn());
        Check.same("30: each beacon, turned round", 13, Check.of("beacon b every 10 at 3 listens 3 sends 1;"
                + "beacon a every 10 at 1 listens 2 sends 2;near a b;").allKnownIn());
        Check.same("30: without beacons", 0, new RadioBeacons().allKnownIn());
        Check.same("30: without any near", 0, Check.of("beacon a every 9;beacon b every 9;").allKnownIn());
        RadioBeacons x = Check.of("beacon a every 9 energy 1;beacon b every 9 energy 1;near a b;");
        x.run(1);
        Check.same("30: out or not", RadioBeacons.NONE, x.allKnownIn());
        x.setNear(0, 1, false);
        Check.same("30: not near any more", 0, x.allKnownIn());
    }

    private static void outInUpTo300() {
        for (int energy : new int[] {1, 2, 3, 298, 299, 300, 301, 302, 303}) {
            RadioBeacons x = Check.of("costs 1 1 1 1;beacon a every 9 energy " + energy + ";");
            Check.same("31: with energy " + energy, energy <= 300 ? energy : RadioBeacons.NONE, x.outIn(0));
            x.run(1);
            Check.same("31: a slot later", energy <= 301 ? energy - 1 : RadioBeacons.NONE, x.outIn(0));
            x.run(1);
            Check.same("31: two slots later", energy <= 302 ? Math.max(0, energy - 2) : RadioBeacons.NONE, x.outIn(0));
        }
        Check.same("31: never", RadioBeacons.NONE, Check.of(FREE + "beacon a every 9 energy 1;").outIn(0));
    }

    /** A beacon a that waits from slot 15 on, held by seven near it that send most of the time, until they are out. */
    private static String held() {
        StringBuilder s = new StringBuilder("costs 0 0 0 4;tries 1;beacon a every 99 at 14 listens 1 sends 2;");
        for (int k = 0; k < 7; k++) {
            char c = (char) ('b' + k);
            s.append("beacon ").append(c).append(" every 2 at ").append(k % 2).append(" listens ").append(1 + k % 4);
            s.append(" sends 9;near a ").append(c).append(";");
        }
        return s.toString();
    }

    private static void sendsInUpTo300() {
        RadioBeacons x = Check.of(held());
        int first = 0;
        for (int slot = 1; slot <= 480 && first == 0; slot++) {
            x.run(1);
            first = x.slots(0, 3) > 0 ? slot : 0;
        }
        Check.same("32: it is held for more than 310 slots, " + first, true, first > 310);
        int[] before = {302, 301, 300, 299, 2, 1, 0};
        int[] due = {RadioBeacons.NONE, RadioBeacons.NONE, 300, 299, 2, 1, 0};
        for (int k = 0; k < before.length; k++) {
            Check.same("32: " + before[k] + " slots before", due[k], at(held(), first - before[k]).sendsIn(0));
        }
    }

    private static void sendsNow() {
        RadioBeacons x = Check.of(FREE + "tries 1;beacon a every 9 at 1 listens 1 sends 2;beacon b every 9 at 1 listens 1 sends 1;");
        x.run(2);
        Check.same("32: in the next slot", 1, x.sendsIn(0));
        Check.same("32: in the next slot, also if it ends by that", 1, x.sendsIn(1));
        x.run(1);
        Check.same("32: it does now", 0, x.sendsIn(0));
        Check.same("32: it has ended", true, x.sendsIn(1) > 0);
        x.run(1);
        Check.same("32: that has ended, too", true, x.sendsIn(0) > 0);
        // out at b of the very slot, it does not have the state 3 at d
        for (int energy = 9; energy <= 11; energy++) {
            RadioBeacons y = Check.of("costs 0 0 0 10;beacon a every 2 listens 1 sends 1 energy " + energy + ";");
            Check.same("32: at d, energy " + energy, energy > 10 ? 4 : RadioBeacons.NONE, y.sendsIn(0));
        }
        Check.same("32: out", RadioBeacons.NONE, at("beacon a every 9 energy 1;", 1).sendsIn(0));
    }

    private static void wellInOneTo300() {
        int[] times = {93, 94, 95, 96, 394};
        int[] due = {RadioBeacons.NONE, RadioBeacons.NONE, 300, 299, 1};
        for (int k = 0; k < times.length; k++) {
            Check.same("33: at " + times[k], due[k], at(DRIFT, times[k]).wellIn(0));
        }
        RadioBeacons x = Check.of(Scenes.PAIR);
        x.run(5);
        Check.same("33: one went well in this slot", 1, x.beacon(0, 11));
        Check.same("33: but that is no next one", true, x.wellIn(0) != 0);
        Check.same("33: without one near it", RadioBeacons.NONE, Check.of("beacon a every 9;").wellIn(0));
        Check.same("33: out", RadioBeacons.NONE, at("beacon a every 9 energy 1;beacon b every 9;near a b;", 1).wellIn(0));
    }

    // ---- what would be best

    /** The collisions in 100 slots for each first wake. */
    private static int[] collisionsByAt(RadioBeacons x, int beacon) {
        int[] collisions = new int[x.beacon(beacon, 0)];
        for (int at = 0; at < collisions.length; at++) {
            x.setAt(beacon, at);
            collisions[at] = x.collisionsIn(100);
            x.undo();
        }
        return collisions;
    }

    private static void bestAt(String text, int due) {
        RadioBeacons x = Check.of(text);
        int[] collisions = collisionsByAt(x, 0);
        int best = 0;
        for (int at = 1; at < collisions.length; at++) {
            best = collisions[at] < collisions[best] ? at : best;
        }
        Check.same("34: tried one by one, " + text, due, best);
        Check.same("34: " + text, due, x.bestAt(0));
    }

    private static final String TO_C = " listens 1 sends 2;beacon c every ";

    private static void bestAtFromTheFirstToTheLast() {
        bestAt("seed 4;beacon a every 2 listens 1 sends 2;beacon b every 6" + TO_C + "12 listens 5;near a c;near b c;", 0);
        bestAt("seed 5;beacon a every 2 listens 1 sends 2;beacon b every 8" + TO_C + "13 listens 5;near a c;near b c;", 0);
        bestAt("seed 0;beacon a every 2 listens 1 sends 2;beacon b every 9" + TO_C + "12 listens 5;near a c;near b c;", 1);
        bestAt("seed 4;beacon a every 12 listens 1 sends 2;beacon b every 5" + TO_C + "11 listens 5;near a c;near b c;", 11);
        // its present first wake is just one of them
        bestAt("seed 4;beacon a every 12 at 11 listens 1 sends 2;beacon b every 5" + TO_C + "11 listens 5;near a c;near b c;", 11);
        bestAt("seed 4;beacon a every 12 at 6 listens 1 sends 2;beacon b every 5" + TO_C + "11 listens 5;near a c;near b c;", 11);
    }

    private static void bestAtTheLowestOfSeveral() {
        for (int period : new int[] {2, 3, 50, 98, 99}) {
            for (int at : new int[] {0, 1, period - 1}) {
                bestAt("beacon a every " + period + " at " + at + ";", 0);
            }
        }
        // none at 2, 8, 16 and 19; at 2, 7, 8, 10 and 11; at 1, 2 and 6
        bestAt("seed 1;beacon a every 20 listens 1 sends 2;beacon b every 3" + TO_C + "11 listens 5;near a c;near b c;", 2);
        bestAt("seed 2;beacon a every 12 listens 1 sends 2;beacon b every 9" + TO_C + "12 listens 5;near a c;near b c;", 2);
        bestAt("seed 5;beacon a every 7 listens 1 sends 2;beacon b every 10" + TO_C + "9 listens 5;near a c;near b c;", 1);
    }

    /** Texts of which 99 slots or 101 slots would give another answer than 100. */
    private static void bestAtIn100Slots() {
        String[] texts = {"seed 895;beacon a every 11 listens 3 sends 2;beacon b every 3 listens 1 sends 3;"
            + "beacon c every 9 listens 1 sends 2;beacon d every 6 listens 3 sends 2;beacon e every 5;"
            + "beacon f every 4 listens 1 sends 1;beacon g every 6 listens 3 sends 2;near b a;near c b;near d b;near e a;"
            + "near e c;near f a;near f b;near f d;near f e;near g a;near g c;near g e;",
            "seed 573;beacon a every 6;beacon b every 7 listens 5 sends 1;beacon c every 8 listens 1 sends 3;"
            + "beacon d every 13 listens 5 sends 3;beacon e every 14 listens 5 sends 1;"
            + "beacon f every 7 listens 2 sends 3;beacon g every 8 listens 2 sends 3;near b a;near c a;near c b;"
            + "near d b;near e a;near f a;near f e;near g b;near g c;near g e;"};
        for (String text : texts) {
            int[] best = {0, 0, 0};
            for (int k = 0; k < 3; k++) {
                int fewest = Integer.MAX_VALUE;
                for (int at = 0; at < Check.of(text).beacon(0, 0); at++) {
                    RadioBeacons x = Check.of(text);
                    x.setAt(0, at);
                    Check.pass(x, 99 + k);
                    best[k] = x.setting(7) < fewest ? at : best[k];
                    fewest = Math.min(fewest, x.setting(7));
                }
            }
            Check.same("34: in 100 slots", best[1], Check.of(text).bestAt(0));
            Check.same("34: not in 99 or 101", true, best[0] != best[1] && best[1] != best[2]);
        }
    }

    /** The period, the greatest one of several, with which the most go well in some slots. */
    private static int bestPeriod(String text, int slots) {
        int best = RadioBeacons.NONE;
        int most = -1;
        for (int period = Math.max(2, Check.of(text).beacon(0, 1) + 1); period <= 99; period++) {
            RadioBeacons x = Check.of(text);
            x.setEvery(0, period);
            Check.pass(x, slots);
            best = x.setting(5) >= most ? period : best;
            most = Math.max(most, x.setting(5));
        }
        return best;
    }

    private static void bestEvery(String text, int due) {
        Check.same("35: tried one by one, " + text, due, bestPeriod(text, 100));
        Check.same("35: " + text, due, Check.of(text).bestEvery(0));
    }

    private static void bestEveryIn100Slots() {
        String[] texts = {
            "seed 22;beacon a every 9;beacon b every 3;beacon c every 13 listens 5;near a c;near b c;",
            "seed 75;beacon a every 9;beacon b every 2;beacon c every 12 listens 5;near a c;near b c;",
            "seed 58;beacon a every 9;beacon b every 3;beacon c every 2 listens 5;near a c;near b c;",
        };
        for (String text : texts) {
            int best = bestPeriod(text, 100);
            Check.same("35: in 100 slots", best, Check.of(text).bestEvery(0));
            Check.same("35: not in 99 or 101", true, bestPeriod(text, 99) != best && best != bestPeriod(text, 101));
            Check.same("35: neither the least nor the greatest", true, best > 2 && best < 99);
        }
    }

    private static String hearer(int at, int period) {
        return "beacon a every 99 at " + at + " listens 1 sends 1;beacon b every " + period + " listens 9;near a b;memory 1;";
    }

    private static void bestEveryFromTheLeastToTheMost() {
        bestEvery("seed 0;" + hearer(0, 8), 2);
        bestEvery("seed 2;" + hearer(0, 6), 2);
        bestEvery("seed 1;" + hearer(1, 3), 2);
        bestEvery("seed 1;" + hearer(2, 3), 3);
        bestEvery("seed 1;" + hearer(5, 8), 6);
        bestEvery("seed 5;" + hearer(5, 7), 6);
        bestEvery("seed 1;" + hearer(98, 8), 99);
        bestEvery("beacon a every 99 at 98;", 99);
        bestEvery("beacon a every 98 at 97;", 99);
    }

    private static void bestEveryTheGreatestOfSeveral() {
        for (int at : new int[] {0, 1, 49, 97}) {
            bestEvery("beacon a every 98 at " + at + ";", 99);
            bestEvery("beacon a every 98 at " + at + " energy 1;beacon b every 9;near a b;", 99);
        }
    }

    private static void bestsOfOneThatIsOut() {
        RadioBeacons x = at("beacon a every 9 at 4 energy 1;beacon b every 9;near a b;", 1);
        Check.same("34: out", 0, x.bestAt(0));
        Check.same("35: out", 99, x.bestEvery(0));
    }

    private static void nothingChangesByAsking() {
        RadioBeacons x = Check.of(LIVELY);
        RadioBeacons y = Check.of(LIVELY);
        for (RadioBeacons z : new RadioBeacons[] {x, y}) {
            z.run(29);
            z.save();
            z.run(2);
            z.report();
            Check.fill(z, "run 3;wake a;wake e;run 5;");
        }
        for (int b = 0; b < 5; b++) {
            x.stateIn(b, 200);
            x.energyIn(b, 199);
            x.collisionsIn(200);
            x.knowsIn(b, 3);
            x.allKnownIn();
            x.outIn(b);
            x.sendsIn(b);
            x.wellIn(b);
            x.bestAt(b);
            x.bestEvery(b);
        }
        Check.same("terms 4: nothing changes by asking", Whole.spent(y), Whole.spent(x));
    }
}

/** The boundary cases of states and slots (Terms 2, promise 36): a method for each sentence that names one. */
final class EdgeSlotTest {
    private static final String FREE = "costs 0 0 0 0;";

    private EdgeSlotTest() {
    }

    public static void main(String[] args) {
        atFirst();
        windowsOfAtMost32();
        drawsThatWrapAround();
        drawsOnlyForWaits();
        drawsByNumber();
        knowsForTheMemory();
        timersOfAllPeriods();
        neverSkipsWithoutOneNear();
        skipsByTheTimeAsItIsNow();
        neverSkipsTwice();
        listensAsLong();
        waitsForOneSlot();
        isHeldByTheSlotBefore();
        isHeldByThoseNear();
        sendsAsLong();
        losesNoMoreThanItHas();
        theSlotCountsAsOne();
        outForGood();
        hearsFromTheFirstSlotToTheLast();
        hearsJustOne();
        triesOrMore();
        fewerTriesThanFails();
        goesOutWithoutAnythingElse();
        slotsOfARun();
        Check.end();
    }

    private static void atFirst() {
        RadioBeacons x = Check.of("seed 77;beacon a every 2;beacon b every 99 at 98 listens 9 sends 9 energy 1;near a b;");
        Check.same("terms 2: asleep, with no fails, and did not skip", "0000 0000", Scenes.states(x));
        Check.same("terms 2: the time", 0, x.setting(2));
        Check.same("terms 2: x is the seed", 77, x.setting(9));
        for (int state = 0; state < 4; state++) {
            Check.same("terms 2: no slots", 0, x.slots(0, state) + x.slots(1, state));
        }
        Check.same("terms 2: the window", 2, x.window(0));
    }

    // ---- windows and draws

    private static long nextX(long x) {
        return ((x & 0xffffffffL) * 1103515245L + 12345L) & 0xffffffffL;
    }

    private static int drawn(long x, int n) {
        return (int) ((x >> 16) % n);
    }

    /** One alone, of which each sending fails. */
    private static RadioBeacons alone(int seed, int tries) {
        return Check.of(FREE + "tries " + tries + ";seed " + seed + ";beacon a every 99 at 1 listens 1 sends 1;");
    }

    private static void windowsOfAtMost32() {
        int[] due = {2, 4, 8, 16, 32, 32, 32, 32, 32};
        RadioBeacons x = alone(1, 9);
        x.run(2);
        for (int fails = 0; fails < 9; fails++) {
            Check.same("terms 2: fails", fails, x.beacon(0, 7));
            Check.same("terms 2: the window by " + fails, due[fails], x.window(0));
            x.run(x.beacon(0, 6));
        }
        Check.same("terms 2: no fails behind the last try", 0, x.beacon(0, 7));
        Check.same("terms 2: the window then", 2, x.window(0));
    }

    private static void drawsThatWrapAround() {
        int[] windows = {2, 4, 8, 16, 32, 32, 32, 32, 32};
        int[] least = new int[9];
        int[] most = new int[9];
        int belowZero = 0;
        for (int seed = 0; seed <= 999; seed++) {
            RadioBeacons x = alone(seed, 9);
            x.run(1);
            Check.same("terms 2: no draw yet", seed, x.setting(9));
            x.run(1);
            long due = seed;
            for (int k = 0; k < 9; k++) {
                due = nextX(due);
                int left = 1 + drawn(due, windows[k]);
                Check.same("terms 2: x, seed " + seed + " draw " + k, (int) due, x.setting(9));
                Check.same("terms 2: the slots left, seed " + seed + " draw " + k, left, x.beacon(0, 6));
                belowZero += x.setting(9) < 0 ? 1 : 0;
                least[k] = least[k] == 0 ? left : Math.min(least[k], left);
                most[k] = Math.max(most[k], left);
                x.run(left);
            }
            Check.same("terms 2: no draw any more", (int) due, x.setting(9));
        }
        for (int k = 0; k < 9; k++) {
            Check.same("terms 2: the least and the greatest of a window", "1 " + windows[k], least[k] + " " + most[k]);
        }
        Check.same("terms 2: shifted without sign", true, belowZero > 1000);
    }

    private static void drawsOnlyForWaits() {
        RadioBeacons x = Check.of("tries 1;beacon a every 9 listens 9 sends 1;");
        x.run(17);
        Check.same("terms 2: no draw asleep or listening", 1, x.setting(9));
        x.run(1);
        Check.same("terms 2: one as it begins to wait", (int) nextX(1), x.setting(9));
        x.run(9);
        Check.same("terms 2: none as it sends and gives up", (int) nextX(1), x.setting(9));
        Check.same("terms 2: it gave up", 1, x.setting(6));
    }

    /** At a and at d, the one with the lower number draws first, whichever was told to be near first. */
    private static void drawsByNumber() {
        String text = FREE + "beacon b every 99 at 1 listens 1 sends 1;beacon a every 99 at 1 listens 1 sends 1;";
        int differ = 0;
        for (int seed = 0; seed < 200; seed++) {
            RadioBeacons x = Check.of("seed " + seed + ";" + text);
            x.run(2);
            long first = nextX(seed);
            long second = nextX(first);
            Check.same("terms 2: a, by number", drawn(first, 2) + " " + drawn(second, 2),
                    x.beacon(0, 6) - 1 + " " + (x.beacon(1, 6) - 1));
            if (x.beacon(0, 6) == 1 && x.beacon(1, 6) == 1) {
                x.run(1);
                long third = nextX(second);
                long fourth = nextX(third);
                differ += drawn(third, 4) == drawn(fourth, 4) ? 0 : 1;
                Check.same("terms 2: d, by number", drawn(third, 4) + " " + drawn(fourth, 4),
                        x.beacon(0, 6) - 1 + " " + (x.beacon(1, 6) - 1));
            }
        }
        Check.same("terms 2: some draws of d differ", true, differ > 5);
    }

    // ---- knowing, timers and skips

    private static void knowsForTheMemory() {
        for (int memory : new int[] {1, 2, 3, 50, 98, 99, 100, 998, 999}) {
            RadioBeacons x = Check.of(FREE + "memory " + memory + ";" + Scenes.PAIR);
            x.run(4);
            Check.same("terms 2: not before it heard it at all", false, x.knows(1, 0));
            x.run(1);
            x.setNear(0, 1, false);
            Check.same("terms 2: at once", true, x.knows(1, 0));
            Check.pass(x, memory - 1);
            Check.same("terms 2: before the last slot of " + memory, true, x.knows(1, 0));
            x.run(1);
            Check.same("terms 2: in the last slot of " + memory, true, x.knows(1, 0));
            Check.same("terms 2: as a set", 1, x.beacon(1, 10));
            Check.same("terms 2: in no slots", 0, x.knowsIn(1, 0));
            x.run(1);
            Check.same("terms 2: behind " + memory, false, x.knows(1, 0));
            Check.same("terms 2: as a set, behind", 0, x.beacon(1, 10));
            Check.same("terms 2: never again", RadioBeacons.NONE, x.knowsIn(1, 0));
            Check.same("terms 2: never itself", false, x.knows(0, 0) || x.knows(1, 1));
        }
    }

    private static void timersOfAllPeriods() {
        for (int period = 2; period <= 99; period++) {
            for (int at = 0; at < period; at++) {
                RadioBeacons x = Check.of(FREE + "beacon a every " + period + " at " + at + ";");
                // the time less the first wake is 0 at the first wake, but no slot has the time 0
                int due = at == 0 ? period : at;
                String what = "terms 2: every " + period + " at " + at;
                Check.same(what, due, x.dueIn(0));
                Check.same(what + ", before", 0, x.stateIn(0, due - 1));
                Check.same(what + ", due", 1, x.stateIn(0, due));
                x.run(due);
                Check.same(what + ", again", period, x.dueIn(0));
            }
        }
        RadioBeacons x = Check.of(FREE + "tries 1;beacon a every 9 at 8 listens 1 sends 1;");
        x.run(8 + 9 + 9);
        Check.same("terms 2: a multiple of the period", 1, x.beacon(0, 5));
        Check.same("terms 2: three wakes", 3, x.slots(0, 1));
    }

    private static void neverSkipsWithoutOneNear() {
        RadioBeacons x = Check.of(FREE + "tries 1;beacon a every 5 listens 1 sends 1;beacon b every 5 at 1 listens 1 sends 1;");
        for (int k = 0; k < 40; k++) {
            x.run(5);
            Check.same("terms 2: at least one near it", 0, x.beacon(0, 8) + x.beacon(1, 8));
            Check.same("terms 2: it listens", 1, x.beacon(0, 5));
        }
        // one that it knows, but which is near it no more
        RadioBeacons y = Check.of(FREE + Scenes.PAIR);
        y.run(14);
        y.setNear(0, 1, false);
        y.run(9);
        Check.same("terms 2: b knows a, which is not near it", true, y.knows(1, 0));
        Check.same("terms 2: b listens", "1300", Scenes.states(y).substring(5));
    }

    private static void skipsByTheTimeAsItIsNow() {
        // b heard a at 5, and its timer is due at 23
        for (int memory = 16; memory <= 20; memory++) {
            RadioBeacons x = Check.of("memory " + memory + ";" + Scenes.PAIR);
            x.run(23);
            Check.same("terms 2: by memory " + memory, memory < 18 ? "1300" : "0001", Scenes.states(x).substring(5));
        }
        // all that are near it: one of two is not known
        RadioBeacons y = Check.of(Scenes.PAIR + "beacon c every 99 at 98;near b c;");
        y.run(23);
        Check.same("terms 2: b does not know c", "1300", Scenes.states(y).substring(5, 9));
        RadioBeacons z = Check.of(Scenes.PAIR + "beacon c every 99 at 98;near b c;");
        z.run(22);
        z.setNear(2, 1, false);
        z.run(1);
        Check.same("terms 2: c is not near it now", "0001", Scenes.states(z).substring(5, 9));
    }

    private static void neverSkipsTwice() {
        RadioBeacons x = Check.of(FREE + "memory 999;" + Scenes.PAIR);
        x.run(23);
        Check.same("terms 2: b skips", "0001", Scenes.states(x).substring(5));
        x.run(9);
        Check.same("terms 2: b has skipped", "0001", Scenes.states(x).substring(5));
        x.run(1);
        Check.same("terms 2: b does not skip again", "1300", Scenes.states(x).substring(5));
        x.setNear(0, 1, false);
        Check.pass(x, 2);
        x.setNear(0, 1, true);
        // b waits, and sends, which may fail or not; when it is asleep then, it skips again
        for (int k = 0; k < 99 && x.beacon(1, 5) != 0; k++) {
            x.run(1);
        }
        x.run(x.dueIn(1));
        Check.same("terms 2: b knows a still", true, x.knows(1, 0));
        Check.same("terms 2: b skips every other wake", "0001", Scenes.states(x).substring(5));
    }

    // ---- listening, waiting and sending

    private static void listensAsLong() {
        for (int listens = 1; listens <= 9; listens++) {
            RadioBeacons x = Check.of("beacon a every 50 at 1 listens " + listens + ";");
            for (int left = listens; left >= 1; left--) {
                x.run(1);
                Check.same("terms 2: listens, of " + listens, "1" + left + "00", Scenes.states(x));
            }
            x.run(1);
            Check.same("terms 2: waits behind " + listens, "2100", Scenes.states(x));
            RadioBeacons y = Check.of("beacon a every 50 at 1 listens " + listens + ";");
            y.wake(0);
            Check.same("terms 2: woken, of " + listens, "1" + listens + "00", Scenes.states(y));
            if (listens > 1) {
                y.run(listens - 1);
                Check.same("terms 2: the last slot, woken", "1100", Scenes.states(y));
            }
            y.run(1);
            Check.same("terms 2: waits behind " + listens + ", woken", "2100", Scenes.states(y));
        }
    }

    private static void waitsForOneSlot() {
        for (int seed = 0; seed < 50; seed++) {
            RadioBeacons x = Check.of("seed " + seed + ";beacon a every 50 at 1 listens 1 sends 9;");
            x.run(2);
            int left = x.beacon(0, 6);
            Check.same("terms 2: 1 and a draw of 2", true, left == 1 || left == 2);
            for (int k = left; k >= 1; k--) {
                Check.same("terms 2: waits", "2" + k + "00", Scenes.states(x));
                x.run(1);
            }
            Check.same("terms 2: sends", "3800", Scenes.states(x));
        }
    }

    /** By draws of seed 1, a sends from slot 3 to slot 11, and b would send in slot 6. */
    private static final String LONG = "beacon a every 50 at 1 listens 1 sends 9;beacon b every 50 at 4 listens 1 sends 1;";

    private static void isHeldByTheSlotBefore() {
        RadioBeacons x = Check.of(LONG + "near a b;");
        x.run(5);
        for (int slot = 5; slot <= 12; slot++) {
            Check.same("terms 2: held in slot " + slot, "2100", Scenes.states(x).substring(5));
            Check.same("terms 2: b sends in slot 13", 13 - slot, x.sendsIn(1));
            if (slot == 11) {
                // the sending of a has ended in this slot, but it had the state 3 at d of it
                Check.same("terms 2: a waits again", "2210", Scenes.states(x).substring(0, 4));
            }
            x.run(1);
        }
        Check.same("terms 2: b has sent in slot 13", 1, x.slots(1, 3));
        // a sending that begins in the very slot does not hold
        RadioBeacons y = Check.of(Scenes.TWINS);
        y.run(3);
        Check.same("terms 2: both send", 2, y.slots(0, 3) + y.slots(1, 3));
    }

    private static void isHeldByThoseNear() {
        RadioBeacons x = Check.of(LONG);
        Check.same("terms 2: one that is not near does not hold", 6, x.sendsIn(1));
        x.run(5);
        x.setNear(1, 0, true);
        Check.same("terms 2: one that is near now, and sent in the slot before", 8, x.sendsIn(1));
        RadioBeacons y = Check.of(LONG + "near a b;");
        y.run(8);
        y.setNear(1, 0, false);
        Check.same("terms 2: one that is near no more", 1, y.sendsIn(1));
        RadioBeacons z = Check.of(LONG + "near a b;");
        z.run(11);
        z.setNear(1, 0, false);
        Check.same("terms 2: near no more behind the last slot", 1, z.sendsIn(1));
        z.undo();
        Check.same("terms 2: held by the last slot", 2, z.sendsIn(1));
    }

    private static void sendsAsLong() {
        for (int sends = 1; sends <= 9; sends++) {
            RadioBeacons x = Check.of("beacon a every 50 at 1 listens 1 sends " + sends + ";beacon b every 50 at 1 listens 9;near a b;");
            x.run(2);
            for (int left = sends - 1; left >= 1; left--) {
                x.run(1);
                Check.same("terms 2: sends, of " + sends, "3" + left + "00", Scenes.states(x).substring(0, 4));
                Check.same("terms 2: not heard yet", RadioBeacons.NONE, x.heard(1, 0));
            }
            Check.same("terms 2: goes well in the last slot of " + sends, 1, x.run(1));
            Check.same("terms 2: asleep then", "0000", Scenes.states(x).substring(0, 4));
            Check.same("terms 2: heard at this time", 2 + sends, x.heard(1, 0));
            Check.same("terms 2: slots of sending", sends, x.slots(0, 3));
            RadioBeacons y = Check.of("beacon a every 50 at 1 listens 1 sends " + sends + ";");
            y.run(1 + sends);
            Check.same("terms 2: not failed yet", 0, y.beacon(0, 7));
            y.run(1);
            Check.same("terms 2: fails in the last slot of " + sends, 1, y.beacon(0, 7));
            Check.same("terms 2: waits then", 2, y.beacon(0, 5));
        }
    }

    // ---- energy

    /** One that is asleep in slot 1, listens in slot 2, waits in slot 3 and sends in slot 4, and pays for one of them. */
    private static RadioBeacons paying(int state, int cost, int energy) {
        StringBuilder s = new StringBuilder("costs");
        for (int k = 0; k < 4; k++) {
            s.append(' ').append(k == state ? cost : 0);
        }
        return Check.of(s + ";beacon a every 2 listens 1 sends 1 energy " + energy + ";");
    }

    private static void losesNoMoreThanItHas() {
        for (int state = 0; state < 4; state++) {
            for (int cost : new int[] {0, 1, 2, 50, 99}) {
                for (int energy : new int[] {1, 2, 3, 49, 50, 51, 98, 99, 100, 999}) {
                    RadioBeacons x = paying(state, cost, energy);
                    String what = "terms 2: " + energy + " less " + cost + " in state " + state;
                    x.run(state + 1);
                    boolean isOut = cost >= energy;
                    Check.same(what, isOut ? 0 : energy - cost, x.beacon(0, 4));
                    Check.same(what + ", lost", isOut ? energy : cost, x.beacon(0, 13));
                    Check.same(what + ", out", isOut, x.beacon(0, 5) == 4);
                    Check.same(what + ", how many are out", isOut ? 1 : 0, x.setting(8));
                    Check.same(what + ", no slots left", true, !isOut || x.beacon(0, 6) == 0);
                    Check.same(what + ", the slot counts", 1, x.slots(0, state));
                    Check.same(what + ", reckoned", cost, x.reckoned(0));
                }
            }
        }
    }

    /** The state that a beacon has by now, that is behind a, is the one that it pays for and that counts. */
    private static void theSlotCountsAsOne() {
        RadioBeacons x = Check.of("costs 1 10 20 30;beacon a every 3 at 2 listens 1 sends 2;");
        String[] due = {"1 0 0 0 1", "1 1 0 0 11", "1 1 1 0 31", "1 1 1 1 61", "1 1 1 2 91"};
        for (String slots : due) {
            x.run(1);
            Check.same("terms 2: this slot counts", slots, x.slots(0, 0) + " " + x.slots(0, 1) + " " + x.slots(0, 2) + " "
                    + x.slots(0, 3) + " " + x.beacon(0, 13));
        }
    }

    private static void outForGood() {
        RadioBeacons x = Check.of("beacon a every 2 listens 1 energy 1;beacon b every 2 listens 9 energy 999;near a b;");
        x.run(1);
        int drawn = x.setting(9);
        for (int k = 0; k < 9; k++) {
            x.run(1);
            Check.same("terms 2: for those that are not out", "4000", Scenes.states(x).substring(0, 4));
            Check.same("terms 2: no slot counts any more", 1, x.slots(0, 0) + x.slots(0, 1) + x.slots(0, 2) + x.slots(0, 3));
            Check.same("terms 2: nothing is lost any more", 1, x.beacon(0, 13));
            Check.same("terms 2: it does not draw", drawn, x.setting(9));
        }
        // all out: the slots go by without anything
        RadioBeacons y = Check.of("costs 99 99 99 99;beacon a every 9 energy 1;beacon b every 9 energy 99;near a b;");
        y.run(1);
        String before = Whole.brief(y).substring(1);
        y.run(99);
        Check.same("terms 2: but the time nothing goes on", before, Whole.brief(y).substring(3));
        Check.same("terms 2: both are out", 2, y.setting(8));
    }

    // ---- hearing

    private static void hearsFromTheFirstSlotToTheLast() {
        // a sends in slots 4 and 5; b listens from a slot on, or waits in that time
        String a = FREE + "beacon a every 50 at 1 listens 2 sends 2;beacon b every 50 at ";
        RadioBeacons x = Check.of(a + "4 listens 2;near a b;");
        x.run(5);
        Check.same("terms 2: listens from the first slot on", 5, x.heard(1, 0));
        RadioBeacons y = Check.of(a + "5 listens 2;near a b;");
        y.run(5);
        Check.same("terms 2: listens from the second slot on", RadioBeacons.NONE, y.heard(1, 0));
        Check.same("terms 2: fails by that", 1, y.beacon(0, 7));
        RadioBeacons z = Check.of(a + "3 listens 1;near a b;");
        z.run(4);
        Check.same("terms 2: waits from the first slot on", "2100", Scenes.states(z).substring(5));
        z.run(1);
        Check.same("terms 2: one that waits hears", 5, z.heard(1, 0));
        // b goes out by the cost of its second slot listening, or has one energy more
        String text = "beacon a every 50 at 1 listens 2 sends 2;beacon b every 50 at 4 listens 5 energy ";
        RadioBeacons v = Check.of(text + "13;near a b;");
        v.run(5);
        Check.same("terms 2: is out in the last slot", RadioBeacons.NONE, v.heard(1, 0));
        Check.same("terms 2: is out", 4, v.beacon(1, 5));
        RadioBeacons w = Check.of(text + "14;near a b;");
        w.run(5);
        Check.same("terms 2: one energy more", 5, w.heard(1, 0));
    }

    private static void hearsJustOne() {
        for (int senders = 1; senders <= 7; senders++) {
            StringBuilder s = new StringBuilder("beacon l every 99 at 1 listens 9;");
            for (int k = 0; k < senders; k++) {
                s.append("beacon s").append((char) ('a' + k)).append(" every 99 at 1 listens 1 sends 9;");
                s.append("near l s").append((char) ('a' + k)).append(";");
            }
            RadioBeacons x = Check.of(s.toString());
            // all of them begin in slot 3 or 4, and end in slot 11 or 12
            x.run(4);
            for (int slot = 5; slot <= 10; slot++) {
                int before = x.setting(7);
                x.run(1);
                Check.same("terms 2: collisions at one with " + senders + " that send", senders > 1 ? 1 : 0, x.setting(7) - before);
            }
            x.run(2);
            Check.same("terms 2: goes well with " + senders, senders > 1 ? 0 : 1, x.setting(5));
            for (int k = 1; k <= senders; k++) {
                Check.same("terms 2: hears none of " + senders, senders > 1, x.heard(0, k) == RadioBeacons.NONE);
            }
        }
        // one near it and one that is not near it: no collision
        RadioBeacons y = Check.of("beacon a every 20 at 1 listens 1 sends 2;beacon b every 20 at 1 listens 1 sends 2;"
                + "beacon c every 20 at 1 listens 9 sends 1;near a c;");
        y.run(4);
        Check.same("terms 2: just one that is near it", "4 0", y.heard(2, 0) + " " + y.setting(7));
        // one that is asleep has no collision
        RadioBeacons z = Check.of("beacon a every 20 at 1 listens 1 sends 2;beacon b every 20 at 1 listens 1 sends 2;"
                + "beacon c every 20 at 9;near a c;near b c;");
        z.run(4);
        Check.same("terms 2: no collision at one that sleeps", 0, z.setting(7));
        // one that is out in this slot has none either, but in the slot before: it pays 5 three times
        RadioBeacons v = Check.of("beacon a every 20 at 1 listens 1 sends 2;beacon b every 20 at 1 listens 1 sends 2;"
                + "beacon c every 20 at 1 listens 9 energy 20;near a c;near b c;");
        v.run(4);
        Check.same("terms 2: no collision at one that is out", 1, v.setting(7));
        Check.same("terms 2: it is out", 4, v.beacon(2, 5));
    }

    // ---- the end of a sending

    private static void triesOrMore() {
        for (int tries = 1; tries <= 9; tries++) {
            RadioBeacons x = alone(5, tries);
            x.run(2);
            for (int fails = 1; fails < tries; fails++) {
                x.run(x.beacon(0, 6));
                Check.same("terms 2: fails, of " + tries, "2 " + fails + " 0", x.beacon(0, 5) + " " + x.beacon(0, 7) + " " + x.setting(6));
            }
            x.run(x.beacon(0, 6));
            Check.same("terms 2: gives up at " + tries, "0000", Scenes.states(x));
            Check.same("terms 2: gave up once", "1 1 0", x.setting(6) + " " + x.beacon(0, 12) + " " + x.setting(5));
        }
    }

    private static void fewerTriesThanFails() {
        for (int tries = 1; tries <= 9; tries++) {
            RadioBeacons x = alone(5, 9);
            x.run(2);
            for (int fails = 1; fails <= 5; fails++) {
                x.run(x.beacon(0, 6));
            }
            x.setTries(tries);
            Check.same("terms 2: does not give up by fewer tries alone", "2 5", x.beacon(0, 5) + " " + x.beacon(0, 7));
            x.run(x.beacon(0, 6));
            Check.same("terms 2: as many as the tries or more: 6 by " + tries, tries <= 6 ? "0 0 1" : "2 6 0",
                    x.beacon(0, 5) + " " + x.beacon(0, 7) + " " + x.setting(6));
        }
        // no fails count behind one that went well: b's second wake begins with the window of none
        RadioBeacons y = Check.of(Scenes.PAIR);
        y.run(13);
        Check.same("terms 2: fails become 0", "0000", Scenes.states(y).substring(5));
    }

    private static void goesOutWithoutAnythingElse() {
        // asleep once, listening once, waiting once: 9; then 9 for each slot of the sending
        for (int slots = 1; slots <= 3; slots++) {
            for (int more = -8; more <= 1; more++) {
                RadioBeacons x = Check.of("beacon a every 2 listens 1 sends 3 energy " + (9 + 9 * slots + more)
                        + ";beacon b every 2 at 1 listens 9;near a b;");
                x.run(3 + slots);
                boolean isOut = more <= 0;
                String what = "terms 2: " + more + " in slot " + slots + " of a sending";
                Check.same(what, isOut ? 4 : slots == 3 ? 0 : 3, x.beacon(0, 5));
                x.run(3 - slots + 1);
                boolean isHeard = slots == 3 && !isOut;
                Check.same(what + ", heard", isHeard ? 6 : RadioBeacons.NONE, x.heard(1, 0));
                Check.same(what + ", why not", isHeard ? 0 : 5, x.whyNot(0, 1));
                Check.same(what + ", neither well nor given up", isHeard ? "1 0 0" : "0 0 0",
                        x.beacon(0, 11) + " " + x.beacon(0, 12) + " " + x.beacon(0, 7));
            }
        }
    }

    private static void slotsOfARun() {
        for (int slots = 1; slots <= 99; slots++) {
            RadioBeacons x = Check.of(Scenes.PAIR);
            RadioBeacons y = Check.of(Scenes.PAIR);
            int well = 0;
            for (int k = 0; k < slots; k++) {
                well += y.run(1);
            }
            Check.same("36: how many went well in " + slots, well, x.run(slots));
            Check.same("36: the time", slots, x.setting(2));
            Check.same("36: the same slots", Scenes.states(y) + y.setting(9), Scenes.states(x) + x.setting(9));
        }
    }
}

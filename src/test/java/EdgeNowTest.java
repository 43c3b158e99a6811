/** The boundary cases of what is there and of the reasons (promises 8 to 25): a method for each sentence that names one. */
final class EdgeNowTest {
    private static final String FREE = "costs 0 0 0 0;";

    private EdgeNowTest() {
    }

    public static void main(String[] args) {
        numbersOfBeacons();
        pairsFromNoneToAll();
        outFromNoneToAll();
        countsSinceTheTextWasRead();
        slotsLeftOfThoseWithoutAny();
        setsOfEight();
        slotsInAllStates();
        reckonedIfThereWasEnergy();
        lettersOfAnyIndex();
        heardLast();
        drainAtTimeZero();
        drainOfNoneToEight();
        knowledgeWithoutPairs();
        whyInAllStates();
        whyAsItIsNow();
        whyNotBeforeASendingEnded();
        whyNotByTheFirstSlot();
        whyNotOfTheLatest();
        dueInOneOrMore();
        hiddenPairs();
        hopsFromNoneToSeven();
        groupsFromNoneToEight();
        earsOfAll();
        earliestOfSeveral();
        windowsByFails();
        Check.end();
    }

    /** A number of beacons without costs, whose timers are far ahead. */
    static String many(int count) {
        StringBuilder s = new StringBuilder(FREE);
        for (int k = 0; k < count; k++) {
            s.append("beacon ").append((char) ('a' + k)).append(" every 99 at 98;");
        }
        return s.toString();
    }

    private static void numbersOfBeacons() {
        for (int count = 0; count <= 8; count++) {
            RadioBeacons x = Check.of(many(count));
            Check.same("8: beacons", count, x.setting(0));
            Check.same("22: each alone", count, x.groups());
            Check.same("24: the lowest one of several", count == 0 ? RadioBeacons.NONE : 0, x.earliest());
            if (count > 0) {
                Check.same("9: the last one", 99, x.beacon(count - 1, 0));
            }
            Check.index("9: behind the last one", () -> x.beacon(x.setting(0), 0));
        }
    }

    private static void pairsFromNoneToAll() {
        RadioBeacons x = Check.of(many(8));
        int pairs = 0;
        for (int a = 0; a < 8; a++) {
            for (int b = a + 1; b < 8; b++) {
                Check.same("8: pairs", pairs, x.setting(1));
                x.setNear(b, a, true);
                pairs++;
            }
        }
        Check.same("8: all of them", 28, x.setting(1));
        x.setNear(0, 7, false);
        Check.same("8: but one", 27, x.setting(1));
    }

    private static void outFromNoneToAll() {
        StringBuilder s = new StringBuilder();
        for (int k = 1; k <= 8; k++) {
            s.append("beacon ").append((char) ('a' + k)).append(" every 99 at 98 energy ").append(k).append(";");
        }
        RadioBeacons x = Check.of(s.toString());
        for (int time = 0; time <= 8; time++) {
            Check.same("8: out at " + time, time, x.setting(8));
            x.run(1);
        }
        x.charge(7, 1);
        Check.same("8: out but one", 7, x.setting(8));
    }

    private static void countsSinceTheTextWasRead() {
        RadioBeacons x = Check.of(Scenes.HIDDEN);
        x.run(19);
        x.save();
        Check.same("8: 5 to 7", "2 1 2", x.setting(5) + " " + x.setting(6) + " " + x.setting(7));
        Check.fill(x, Scenes.HIDDEN);
        x.readText();
        Check.same("8: 5 to 7 since the text was read", "0 0 0", x.setting(5) + " " + x.setting(6) + " " + x.setting(7));
        x.run(3);
        Check.same("8: 5 to 7 of the second text", "0 0 1", x.setting(5) + " " + x.setting(6) + " " + x.setting(7));
        x.undo();
        Check.same("8: 5 to 7 undone", "0 0 0", x.setting(5) + " " + x.setting(6) + " " + x.setting(7));
        x.restore();
        Check.same("8: 5 to 7 restored", "2 1 2", x.setting(5) + " " + x.setting(6) + " " + x.setting(7));
    }

    /** 0 asleep or out, whatever was left. */
    private static void slotsLeftOfThoseWithoutAny() {
        // asleep 1, listening 5 each, waiting 3 each: out while there are slots left
        for (int energy = 1; energy <= 60; energy++) {
            RadioBeacons x = Check.of("beacon a every 2 listens 4 sends 4 energy " + energy + ";");
            for (int k = 0; k < 15; k++) {
                x.run(1);
                boolean isAwake = x.beacon(0, 5) >= 1 && x.beacon(0, 5) <= 3;
                Check.same("9: slots left, energy " + energy, isAwake, x.beacon(0, 6) > 0);
                Check.same("9: out without energy", x.beacon(0, 5) == 4, x.beacon(0, 4) == 0);
            }
        }
        RadioBeacons x = Check.of("tries 1;beacon a every 2 listens 1 sends 1;");
        x.run(4);
        Check.same("9: asleep behind a sending", "0000", Scenes.states(x));
    }

    private static void setsOfEight() {
        StringBuilder s = new StringBuilder(FREE + "memory 999;");
        for (int k = 0; k < 8; k++) {
            s.append("beacon ").append((char) ('a' + k)).append(" every ").append(30 + k).append(" listens 9 sends 1;");
        }
        RadioBeacons x = Check.of(s.toString());
        for (int a = 0; a < 8; a++) {
            for (int b = 0; b < a; b++) {
                x.setNear(a, b, true);
            }
        }
        for (int b = 0; b < 8; b++) {
            Check.same("9: all are near it but itself", 255 - (1 << b), x.beacon(b, 9));
            Check.same("9: it knows none", 0, x.beacon(b, 10));
        }
        for (int k = 0; k < 100 && x.knowledge() < 1.0; k++) {
            x.run(50);
        }
        for (int b = 0; b < 8; b++) {
            Check.same("9: it knows all but itself", 255 - (1 << b), x.beacon(b, 10));
        }
        Check.same("16: all known", 1.0, x.knowledge());
        Check.same("30: all known", 0, x.allKnownIn());
    }

    private static void slotsInAllStates() {
        RadioBeacons x = Check.of(Scenes.PAIR);
        for (int time = 0; time <= 41; time++) {
            for (int b = 0; b < 2; b++) {
                Check.same("10: together the time", time, x.slots(b, 0) + x.slots(b, 1) + x.slots(b, 2) + x.slots(b, 3));
            }
            x.run(1);
        }
        Check.argument("10: state -1", () -> x.slots(0, -1));
        Check.argument("10: state 4", () -> x.slots(0, 4));
    }

    private static void reckonedIfThereWasEnergy() {
        RadioBeacons x = Check.of("costs 99 1 1 1;beacon a every 99 at 98 energy 1;");
        Check.same("11: no slots", 0, x.reckoned(0));
        x.run(1);
        Check.same("11: with energy enough", 99, x.reckoned(0));
        Check.same("9: lost", 1, x.beacon(0, 13));
        x.run(50);
        Check.same("11: out", 99, x.reckoned(0));
        x.charge(0, 999);
        x.run(10);
        Check.same("11: charged", 11 * 99, x.reckoned(0));
        x.run(10);
        Check.same("11: out again, in its 11th slot", 99 + 11 * 99, x.reckoned(0));
        Check.same("9: lost again", 1000, x.beacon(0, 13));
    }

    private static void lettersOfAnyIndex() {
        String name = "abcdefgh";
        for (int length = 1; length <= 8; length++) {
            RadioBeacons x = Check.of("beacon zzzzzzzz every 9;beacon " + name.substring(0, length) + " every 9;");
            for (int i = -9; i <= 70; i++) {
                int due = i >= 0 && i < length ? name.charAt(i) : 0;
                Check.same("12: letter " + i + " of " + length, due, x.letter(1, i));
            }
            for (int i : new int[] {Integer.MIN_VALUE, -256, -64, -32, 128, 256, 1 << 29, 1 << 30, Integer.MAX_VALUE}) {
                Check.same("12: letter " + i + " of " + length, 0, x.letter(1, i));
            }
        }
    }

    private static void heardLast() {
        RadioBeacons x = Check.of(FREE + "tries 1;beacon a every 9 at 1 listens 1 sends 1;beacon b every 99 at 98 listens 9;near a b;");
        Check.same("13: never", RadioBeacons.NONE, x.heard(1, 0));
        int last = RadioBeacons.NONE;
        for (int k = 0; k < 40; k++) {
            if (x.beacon(1, 5) == 0) {
                x.wake(1);
            }
            int well = x.beacon(0, 11);
            x.run(1);
            last = x.beacon(0, 11) > well ? x.setting(2) : last;
            Check.same("13: the time at which it heard it last", last, x.heard(1, 0));
        }
        Check.same("13: more than once", true, x.beacon(0, 11) > 1);
        Check.same("13: it heard it", true, last > 0);
        Check.same("13: never itself", RadioBeacons.NONE, x.heard(0, 0));
    }

    private static void drainAtTimeZero() {
        RadioBeacons x = Check.of("costs 10 0 0 0;beacon a every 99 at 98;beacon b every 99 at 98 energy 5;");
        Check.same("15: at time 0", 0.0f, x.drain());
        x.run(1);
        Check.same("15: at time 1", 15.0f, x.drain());
        x.run(2);
        Check.same("15: as floats", 35.0f / 3.0f, x.drain());
        x.undo();
        x.undo();
        Check.same("15: at time 0 again", 0.0f, x.drain());
        RadioBeacons y = Check.of(FREE + "beacon a every 9;");
        y.run(9);
        Check.same("15: nothing lost", 0.0f, y.drain());
    }

    private static void drainOfNoneToEight() {
        RadioBeacons x = new RadioBeacons();
        // fewer beacons than in the text before: of those that are there no more nothing counts
        for (int count : new int[] {8, 7, 1, 0, 3, 8}) {
            StringBuilder s = new StringBuilder("costs 10 0 0 0;");
            for (int k = 0; k < count; k++) {
                s.append("beacon ").append((char) ('a' + k)).append(" every 99 at 98;");
            }
            Check.fill(x, s.toString());
            x.readText();
            Check.same("15: at time 0, of " + count, 0.0f, x.drain());
            x.run(3);
            Check.same("15: of all " + count, 10.0f * count, x.drain());
        }
    }

    private static void knowledgeWithoutPairs() {
        Check.same("16: without beacons", 0.0, new RadioBeacons().knowledge());
        Check.same("16: one beacon", 0.0, Check.of(many(1)).knowledge());
        RadioBeacons x = Check.of(Scenes.PAIR + "beacon c every 99 at 98;");
        x.run(5);
        Check.same("16: one of two", 1.0 / 2.0, x.knowledge());
        x.setNear(0, 1, false);
        Check.same("16: without any, though known", 0.0, x.knowledge());
        x.setNear(0, 2, true);
        Check.same("16: none of two", 0.0, x.knowledge());
        x.setNear(1, 2, true);
        x.setNear(0, 1, true);
        Check.same("16: one of six", 1.0 / 6.0, x.knowledge());
    }

    // ---- reasons

    private static void whyInAllStates() {
        RadioBeacons x = Check.of("beacon a every 2 listens 1 sends 2 energy 27;");
        int[] due = {2, 3, 5, 0, 1};
        for (int k = 0; k < 5; k++) {
            x.run(1);
            Check.same("17: slot " + (k + 1), due[k], x.why(0));
        }
        x.charge(0, 5);
        Check.same("17: charged", 2, x.why(0));
    }

    /** It waits, and one near it sends as it is now, whatever was in the slot before. */
    private static void whyAsItIsNow() {
        RadioBeacons x = Check.of("beacon a every 50 at 1 listens 1 sends 9;beacon b every 50 at 4 listens 1 sends 1;near a b;");
        x.run(4);
        Check.same("17: it listens, though one near it sends", 3, x.why(1));
        int[] due = {4, 4, 4, 4, 4, 4, 5, 5};
        for (int k = 0; k < due.length; k++) {
            x.run(1);
            // in slot 11 the sending of a ends: b is still held by it in slot 12
            Check.same("17: slot " + (5 + k), due[k], x.why(1));
        }
        RadioBeacons y = Check.of(FREE + "beacon a every 50 at 1 listens 1 sends 9;beacon b every 50 at 4 listens 1 sends 1;");
        y.run(5);
        Check.same("17: not near", 5, y.why(1));
        y.setNear(0, 1, true);
        Check.same("17: near now", 4, y.why(1));
        Check.same("17: one that sends, near one that waits", 0, y.why(0));
    }

    private static void whyNotBeforeASendingEnded() {
        RadioBeacons x = Check.of(many(8));
        for (int a = 0; a < 8; a++) {
            for (int b = 0; b < 8; b++) {
                Check.same("18: no sending ended yet", 5, x.whyNot(a, b));
            }
        }
        RadioBeacons y = Check.of("beacon a every 50 at 1 listens 1 sends 9;beacon b every 50 at 1 listens 9;near a b;");
        for (int slot = 1; slot <= 10; slot++) {
            y.run(1);
            Check.same("18: not in slot " + slot, 5, y.whyNot(0, 1));
        }
        y.run(1);
        Check.same("18: it ended", 0, y.whyNot(0, 1));
        Check.same("18: both are the same", 5, y.whyNot(0, 0));
        Check.same("18: none of the other one", 5, y.whyNot(1, 0));
        Check.fill(y, "beacon a every 50 at 1;beacon b every 9;");
        y.readText();
        Check.same("18: none of the next text", 5, y.whyNot(0, 1));
    }

    /** a sends in slots 4 to 7; b would hear each of them, but for what is done in between. */
    private static RadioBeacons fourSlots() {
        return Check.of(FREE + "tries 1;beacon a every 50 at 1 listens 2 sends 4;beacon b every 50 at 1 listens 9;"
                + "beacon c every 50 at 49 listens 1 sends 2;near a b;near b c;");
    }

    private static void whyNotByTheFirstSlot() {
        for (int first = 4; first <= 8; first++) {
            RadioBeacons x = fourSlots();
            x.run(first - 1);
            if (first < 8) {
                x.setNear(0, 1, false);
                x.run(1);
                x.setNear(0, 1, true);
            }
            Check.pass(x, 7 - x.setting(2));
            Check.same("18: not near in slot " + first, first < 8 ? 1 : 0, x.whyNot(0, 1));
        }
        // woken in slot 2, c listens in slot 3, waits in slot 4 or 5, and sends in the two slots behind that
        RadioBeacons y = fourSlots();
        y.run(3);
        y.wake(2);
        y.run(4);
        Check.same("18: a collision in a later slot", 4, y.whyNot(0, 1));
        Check.same("18: a collision of the other sending", 4, y.whyNot(2, 1));
        Check.same("18: not near c in any slot", 1, y.whyNot(0, 2));
        RadioBeacons z = fourSlots();
        z.run(3);
        z.wake(2);
        z.setNear(0, 1, false);
        z.run(1);
        z.setNear(0, 1, true);
        z.run(3);
        Check.same("18: not near in the first slot, and a collision behind that", 1, z.whyNot(0, 1));
        whyNotInState();
    }

    private static void whyNotInState() {
        // b is near a in all slots, asleep in slots 4 and 5, and listens from slot 6 on
        RadioBeacons x = Check.of("beacon a every 50 at 1 listens 2 sends 4;beacon b every 50 at 6 listens 9;near a b;");
        x.run(7);
        Check.same("18: asleep in the first slot", 2, x.whyNot(0, 1));
        // b sends from slot 4 on as a does, and both sendings end in different slots
        RadioBeacons y = Check.of("beacon a every 50 at 1 listens 2 sends 4;beacon b every 50 at 1 listens 2 sends 2;near a b;");
        y.run(4);
        Check.same("18: both send", "3300 3100", Scenes.states(y));
        y.run(3);
        Check.same("18: it sent in the first slot, and waits then", 3, y.whyNot(0, 1));
        Check.same("18: a sent, too", 3, y.whyNot(1, 0));
        // b is out from slot 6 on: it pays 5 in each slot listening
        RadioBeacons z = Check.of("beacon a every 50 at 1 listens 2 sends 4;beacon b every 50 at 1 listens 9 energy 30;near a b;");
        z.run(7);
        Check.same("18: out in a later slot", 2, z.whyNot(0, 1));
        // not near, and it sends, is asleep or out: it was not near
        RadioBeacons v = Check.of("beacon a every 50 at 1 listens 2 sends 4;beacon b every 50 at 1 listens 2 sends 2;"
                + "beacon c every 50 at 49;beacon d every 50 at 49 energy 1;beacon e every 50 at 1 listens 9;near a e;");
        v.run(7);
        Check.same("18: not near comes first", "1 1 1 0", v.whyNot(0, 1) + " " + v.whyNot(0, 2) + " " + v.whyNot(0, 3) + " " + v.whyNot(0, 4));
    }

    private static void whyNotOfTheLatest() {
        RadioBeacons x = Check.of(FREE + "beacon a every 50 at 1 listens 1 sends 2;beacon b every 50 at 49 listens 9;near a b;");
        x.run(4);
        Check.same("18: b was asleep", 2, x.whyNot(0, 1));
        x.wake(1);
        int left = x.beacon(0, 6);
        x.run(left);
        Check.same("18: the next sending goes on", "3 2", x.beacon(0, 5) + " " + x.whyNot(0, 1));
        x.run(1);
        Check.same("18: the next sending ended", "0 0", x.beacon(0, 5) + " " + x.whyNot(0, 1));
        x.undo();
        Check.same("18: undone", "3 2", x.beacon(0, 5) + " " + x.whyNot(0, 1));
        x.setNear(0, 1, false);
        x.run(1);
        Check.same("18: another end of it", 1, x.whyNot(0, 1));
    }

    private static void dueInOneOrMore() {
        for (int period : new int[] {2, 3, 7, 50, 98, 99}) {
            for (int at : new int[] {0, 1, period / 2, period - 1}) {
                RadioBeacons x = Check.of(FREE + "beacon a every " + period + " at " + at + ";");
                for (int time = 0; time <= 2 * period + 1; time++) {
                    int due = 1;
                    while (time + due < at || (time + due - at) % period != 0) {
                        due++;
                    }
                    Check.same("19: every " + period + " at " + at + ", time " + time, due, x.dueIn(0));
                    x.run(1);
                }
            }
        }
        // whatever its state: out, and awake
        RadioBeacons x = Check.of("beacon a every 5 at 3 energy 1;beacon b every 2 listens 9;");
        x.run(4);
        Check.same("19: out", "4 4", x.beacon(0, 5) + " " + x.dueIn(0));
        Check.same("19: awake", "1 2", x.beacon(1, 5) + " " + x.dueIn(1));
    }

    private static void hiddenPairs() {
        RadioBeacons x = Check.of(many(8));
        int[] due = {0, 0, 1, 3, 6, 10, 15, 21};
        for (int k = 0; k < 8; k++) {
            Check.same("20: " + k + " near it, none near each other", due[k], x.hidden(7));
            Check.same("20: of one of them", 0, x.hidden(0));
            if (k < 7) {
                x.setNear(k, 7, true);
            }
        }
        int hidden = 21;
        for (int a = 0; a < 7; a++) {
            for (int b = 0; b < a; b++) {
                x.setNear(a, b, true);
                hidden--;
                Check.same("20: one pair less", hidden, x.hidden(7));
            }
        }
        Check.same("20: all near each other", 0, x.hidden(3));
    }

    private static void hopsFromNoneToSeven() {
        RadioBeacons x = Check.of(many(8));
        for (int length = 1; length <= 8; length++) {
            for (int a = 0; a < 8; a++) {
                for (int b = 0; b < 8; b++) {
                    boolean isReached = a == b || a < length && b < length;
                    int due = isReached ? Math.abs(a - b) : RadioBeacons.NONE;
                    Check.same("21: " + a + " to " + b + " in a chain of " + length, due, x.hops(a, b));
                }
            }
            Check.same("22: a chain of " + length, 9 - length, x.groups());
            if (length < 8) {
                x.setNear(length - 1, length, true);
            }
        }
        x.setNear(7, 0, true);
        Check.same("21: the least number", 4, x.hops(0, 4));
        Check.same("21: the other way round", 3, x.hops(0, 5));
        Check.same("22: a ring", 1, x.groups());
        RadioBeacons y = Check.of("beacon a every 9;beacon b every 9 energy 1;beacon c every 9;near a b;near b c;");
        y.run(1);
        Check.same("21: by one that is out", "4 2", y.beacon(1, 5) + " " + y.hops(0, 2));
        Check.same("22: by one that is out", 1, y.groups());
    }

    private static void groupsFromNoneToEight() {
        Check.same("22: none", 0, new RadioBeacons().groups());
        RadioBeacons x = Check.of(many(8));
        int[][] pairs = {{7, 0}, {6, 1}, {5, 2}, {4, 3}, {7, 6}, {0, 1}, {5, 4}, {2, 1}, {7, 3}};
        int[] due = {7, 6, 5, 4, 3, 3, 2, 1, 1};
        Check.same("22: eight", 8, x.groups());
        for (int k = 0; k < pairs.length; k++) {
            x.setNear(pairs[k][0], pairs[k][1], true);
            Check.same("22: behind pair " + k, due[k], x.groups());
        }
    }

    private static void earsOfAll() {
        RadioBeacons x = Check.of(many(8));
        for (int b = 1; b < 8; b++) {
            x.setNear(0, b, true);
        }
        Check.same("23: all asleep", 0, x.ears(0));
        int due = 0;
        for (int b = 1; b < 8; b++) {
            x.wake(b);
            due |= 1 << b;
            Check.same("23: those that listen", due, x.ears(0));
            Check.same("23: of one of them, the first one asleep", 0, x.ears(b));
        }
        x.wake(0);
        Check.same("23: all seven", 254, x.ears(0));
        Check.same("23: only the first one is near", 1, x.ears(7));
        // one that sends already is still asked as it is: a sends, b waits near it, c sends not near it
        RadioBeacons y = Check.of(FREE + "beacon a every 50 at 1 listens 1 sends 9;beacon b every 50 at 1 listens 9;"
                + "beacon c every 50 at 1 listens 1 sends 9;near a b;");
        y.run(4);
        Check.same("23: a and c send", "3 1 3", y.beacon(0, 5) + " " + y.beacon(1, 5) + " " + y.beacon(2, 5));
        Check.same("23: its own sending is no other one", 2, y.ears(0));
        Check.same("23: one that sends does not hear", 0, y.ears(1));
        y.setNear(1, 2, true);
        Check.same("23: two would be near b", "0 0", y.ears(0) + " " + y.ears(2));
    }

    private static void earliestOfSeveral() {
        RadioBeacons x = Check.of(FREE + "beacon a every 8 at 7;beacon b every 8 at 6;beacon c every 8 at 5;beacon d every 8 at 4;"
                + "beacon e every 8 at 3;beacon f every 8 at 2;beacon g every 8 at 1;beacon h every 8 at 0;");
        for (int time = 0; time < 20; time++) {
            Check.same("24: at " + time, 7 - (time + 1) % 8, x.earliest());
            x.run(1);
        }
        RadioBeacons y = Check.of(many(8));
        Check.same("24: the lowest of eight", 0, y.earliest());
        y.setAt(7, 97);
        Check.same("24: one slot before", 7, y.earliest());
        y.setAt(3, 97);
        Check.same("24: the lowest of two", 3, y.earliest());
        RadioBeacons z = Check.of("beacon a every 9 at 8;beacon b every 9 at 5 energy 1;");
        z.run(1);
        Check.same("24: out or not", "4 1", z.beacon(1, 5) + " " + z.earliest());
        Check.same("24: as far as can be", 0, Check.of("beacon a every 99;").earliest());
    }

    private static void windowsByFails() {
        RadioBeacons x = Check.of("beacon a every 99 at 98 energy 1;");
        Check.same("25: with no fails", 2, x.window(0));
        x.run(1);
        Check.same("25: out with no fails", 2, x.window(0));
        // in slot 5 its first sending fails: 4 asleep, 5, 3 and 9 for the others
        RadioBeacons y = Check.of("beacon a every 5 listens 1 sends 1 energy 24;");
        y.run(7);
        Check.same("25: with one", 4, y.window(0));
        y.run(1);
        Check.same("25: out with one", "4 1 4", y.beacon(0, 5) + " " + y.beacon(0, 7) + " " + y.window(0));
        y.charge(0, 1);
        Check.same("25: charged", "0 0 2", y.beacon(0, 5) + " " + y.beacon(0, 7) + " " + y.window(0));
    }
}

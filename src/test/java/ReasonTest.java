/** Promises 17 to 25: reasons. */
final class ReasonTest {
    private static final String CHAIN = "beacon a every 9;beacon b every 9;beacon c every 9;beacon d every 9;"
            + "beacon e every 9;beacon f every 9;near a b;near b c;near c d;near e f;";

    private ReasonTest() {
    }

    public static void main(String[] args) {
        why();
        whyNot();
        whyNotFirstSlot();
        whyNotStates();
        due();
        hidden();
        ways();
        ears();
        earliest();
        windows();
        Check.end();
    }

    private static void why() {
        RadioBeacons x = Check.of(Scenes.TWINS + "beacon c every 9 energy 3;");
        Check.same("17: asleep", 2, x.why(0));
        x.run(1);
        Check.same("17: listens", 3, x.why(0));
        x.run(1);
        Check.same("17: waits", 5, x.why(0));
        x.run(1);
        Check.same("17: sends", 0, x.why(0));
        Check.same("17: out", 1, x.why(2));
        x.run(2);
        Check.same("17: held, but none near it sends as it is now", 5, x.why(0));
        x.run(2);
        Check.same("17: a sends", 0, x.why(0));
        Check.same("17: waits, and one near it sends", 4, x.why(1));
        x.setNear(0, 1, false);
        Check.same("17: waits, and the one that sends is not near", 5, x.why(1));
        x.setNear(0, 1, true);
        x.run(1);
        Check.same("17: waits, and the sending has ended", 5, x.why(1));
        Check.index("17: no such beacon", () -> x.why(3));
        Check.index("17: negative", () -> x.why(-1));
    }

    private static void whyNot() {
        RadioBeacons x = Check.of(Scenes.HIDDEN);
        x.run(3);
        Check.same("18: goes on still", 5, x.whyNot(0, 2));
        x.run(1);
        Check.same("18: not near", 1, x.whyNot(0, 1));
        Check.same("18: a collision", 4, x.whyNot(0, 2));
        Check.same("18: a collision, the other one", 4, x.whyNot(1, 2));
        Check.same("18: the same one", 5, x.whyNot(0, 0));
        Check.same("18: none ended", 5, x.whyNot(2, 0));
        x.run(2);
        Check.same("18: the latest that ended, not the present one", 4, x.whyNot(0, 2));
        x.run(1);
        Check.same("18: heard", 0, x.whyNot(0, 2));
        Check.same("18: not near still", 1, x.whyNot(0, 1));
        x.run(5);
        Check.same("18: asleep", 2, x.whyNot(2, 0));
        Check.same("18: the same one, with a sending", 5, x.whyNot(2, 2));
        RadioBeacons y = Check.of(Scenes.TWINS);
        y.run(4);
        Check.same("18: sent itself", 3, y.whyNot(0, 1));
        Check.same("18: both sent", 3, y.whyNot(1, 0));
        Check.index("18: no such beacon", () -> y.whyNot(2, 0));
        Check.index("18: no such other", () -> y.whyNot(0, 2));
        Check.index("18: negative", () -> y.whyNot(-1, 0));
    }

    private static void whyNotFirstSlot() {
        // b sleeps in the first slot of the sending (4), and listens in the second one
        RadioBeacons x = Check.of("beacon a every 10 at 1 sends 3;beacon b every 10 at 5 listens 9;near a b;");
        x.run(6);
        Check.same("18: asleep in the first slot", 2, x.whyNot(0, 1));
        // b hears the first slot, and is not near in the second one
        RadioBeacons y = Check.of(Scenes.PAIR);
        y.run(4);
        y.setNear(0, 1, false);
        y.run(1);
        Check.same("18: not near in the second slot", 1, y.whyNot(0, 1));
        // not near in the first slot, though asleep in the second one, and near then
        RadioBeacons z = Check.of("beacon a every 10 at 1 sends 2;beacon b every 10 at 9 listens 9;");
        z.run(4);
        z.setNear(0, 1, true);
        z.run(1);
        Check.same("18: not near in the first slot", 1, z.whyNot(0, 1));
        // c hears a alone in slot 4; b joins in slot 5
        RadioBeacons w = Check.of("beacon a every 20 at 1 listens 2 sends 2;beacon b every 20 at 2 listens 2 sends 2;"
                + "beacon c every 20 at 1 listens 9;near a c;near b c;");
        w.run(4);
        Check.same("18: a sends, b waits", "3100 2100 1600", Scenes.states(w));
        w.run(2);
        Check.same("18: a collision in the second slot", 4, w.whyNot(0, 2));
        Check.same("18: a collision in the first slot", 4, w.whyNot(1, 2));
    }

    private static void whyNotStates() {
        // b is out in the second slot of the sending: it pays 1 twice, and 5 twice
        RadioBeacons x = Check.of("beacon a every 10 at 1;beacon b every 10 at 3 listens 9 energy 13;near a b;");
        x.run(4);
        Check.same("18: b listens with the rest of its energy", "3100 1800", Scenes.states(x));
        x.run(1);
        Check.same("18: b is out", 4, x.beacon(1, 5));
        Check.same("18: out in the second slot", 2, x.whyNot(0, 1));
    }

    private static void due() {
        RadioBeacons x = Check.of("beacon a every 9;beacon b every 9 at 1;beacon c every 9 at 8;beacon d every 2 at 1 energy 1;");
        int[][] due = {{9, 1, 8, 1}, {8, 9, 7, 2}, {7, 8, 6, 1}, {6, 7, 5, 2}, {5, 6, 4, 1}, {4, 5, 3, 2}, {3, 4, 2, 1},
            {2, 3, 1, 2}, {1, 2, 9, 1}, {9, 1, 8, 2}};
        for (int time = 0; time < due.length; time++) {
            for (int b = 0; b < 4; b++) {
                Check.same("19: " + b + " at " + time, due[time][b], x.dueIn(b));
            }
            x.run(1);
        }
        Check.same("19: also of one that is out", 4, x.beacon(3, 5));
        Check.same("19: far ahead", 99, Check.of("beacon a every 99;").dueIn(0));
        Check.same("19: the first wake", 98, Check.of("beacon a every 99 at 98;").dueIn(0));
        Check.index("19: no such beacon", () -> x.dueIn(4));
        Check.index("19: negative", () -> x.dueIn(-1));
    }

    private static void hidden() {
        RadioBeacons x = Check.of("beacon a every 9;beacon b every 9;beacon c every 9;beacon d every 9;beacon e every 9;"
                + "near a b;near a c;near a d;near d e;");
        Check.same("20: three pairs", 3, x.hidden(0));
        Check.same("20: one near it", 0, x.hidden(1));
        Check.same("20: one pair", 1, x.hidden(3));
        x.setNear(2, 1, true);
        Check.same("20: two pairs", 2, x.hidden(0));
        Check.same("20: all near each other", 0, x.hidden(1));
        Check.index("20: no such beacon", () -> x.hidden(5));
        Check.index("20: negative", () -> x.hidden(-1));
    }

    private static void ways() {
        RadioBeacons x = Check.of(CHAIN);
        int[] due = {0, 1, 2, 3, RadioBeacons.NONE, RadioBeacons.NONE};
        for (int b = 0; b < 6; b++) {
            Check.same("21: to " + b, due[b], x.hops(0, b));
            Check.same("21: from " + b, due[b], x.hops(b, 0));
        }
        Check.same("22: two groups", 2, x.groups());
        x.setNear(0, 3, true);
        Check.same("21: the shorter way", 1, x.hops(0, 3));
        Check.same("21: the shorter way", 2, x.hops(0, 2));
        x.setNear(4, 1, true);
        Check.same("21: reached", 3, x.hops(3, 4));
        Check.same("22: one group", 1, x.groups());
        Check.index("21: no such beacon", () -> x.hops(6, 0));
        Check.index("21: no such other", () -> x.hops(0, 6));
        Check.index("21: negative", () -> x.hops(-1, -1));
        RadioBeacons y = Check.of("beacon a every 9;beacon b every 9;beacon c every 9;beacon d every 9;beacon e every 9;"
                + "beacon f every 9;beacon g every 9;beacon h every 9;near a h;near h b;near b g;near g c;near c f;"
                + "near f d;near d e;");
        Check.same("21: as far as it can be", 7, y.hops(0, 4));
        Check.same("22: a long way is one group", 1, y.groups());
        Check.same("22: no beacons", 0, new RadioBeacons().groups());
        Check.same("22: none near each other", 3, Check.of("beacon a every 9;beacon b every 9;beacon c every 9;").groups());
        RadioBeacons z = Check.of("beacon a every 9 energy 1;beacon b every 9 energy 1;near a b;");
        z.run(3);
        Check.same("21: out or not", 1, z.hops(0, 1));
    }

    private static void ears() {
        RadioBeacons x = Check.of(Scenes.HIDDEN);
        Check.same("23: all asleep", 0, x.ears(0));
        x.run(1);
        Check.same("23: c listens", 4, x.ears(0));
        Check.same("23: a and b listen", 3, x.ears(2));
        x.run(5);
        Check.same("23: a sends, b waits, c listens", "3110 2210 1400", Scenes.states(x));
        Check.same("23: a is heard by c", 4, x.ears(0));
        Check.same("23: b would collide at c", 0, x.ears(1));
        Check.same("23: c is heard by b alone", 2, x.ears(2));
        x.setNear(0, 1, true);
        Check.same("23: now b hears a, too", 6, x.ears(0));
        Check.same("23: and c would collide at b", 0, x.ears(2));
        Check.index("23: no such beacon", () -> x.ears(3));
        Check.index("23: negative", () -> x.ears(-1));
        RadioBeacons y = Check.of("beacon a every 9 energy 1;beacon b every 9 at 1 listens 9;near a b;");
        y.run(1);
        Check.same("23: one that is out would be heard", 2, y.ears(0));
        Check.same("23: one that is out does not hear", 0, y.ears(1));
    }

    private static void earliest() {
        RadioBeacons x = Check.of("beacon a every 9;beacon b every 9 at 7;beacon c every 9 at 7;beacon d every 5 at 4 energy 1;");
        Check.same("24: also one that is out", 3, x.earliest());
        x.run(4);
        Check.same("24: the lowest of several", 1, x.earliest());
        x.run(3);
        Check.same("24: the lowest of a and d", 0, x.earliest());
        Check.same("24: without beacons", RadioBeacons.NONE, new RadioBeacons().earliest());
        Check.same("24: one", 0, Check.of("beacon a every 99;").earliest());
    }

    private static void windows() {
        RadioBeacons x = Check.of("tries 9;costs 0 0 0 0;beacon a every 2 listens 1 sends 1;");
        Check.same("25: without fails", 2, x.window(0));
        int[] windows = {2, 4, 8, 16, 32, 32, 32, 32, 32};
        int seen = 0;
        for (int k = 0; k < 250; k++) {
            x.run(1);
            seen |= 1 << x.beacon(0, 7);
            if (x.window(0) != windows[x.beacon(0, 7)]) {
                Check.same("25: by " + x.beacon(0, 7) + " fails", windows[x.beacon(0, 7)], x.window(0));
            }
        }
        Check.same("25: all of them", 511, seen);
        Check.index("25: no such beacon", () -> x.window(1));
        Check.index("25: negative", () -> x.window(-1));
    }
}

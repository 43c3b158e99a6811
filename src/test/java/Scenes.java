/** Texts that several tests use, with what becomes of their beacons worked out by hand. */
final class Scenes {
    /**
     * Two beacons, the draws of seed 1. The first draws, by 2 0 0 1 1 1 1 0 1 1 1, by 4 2 2 1 3 3 3 2 3 0 2,
     * by 8 6 6 1 3 3 3 2 3 4 6.
     */
    static final String PAIR = "beacon a every 10 at 1 listens 2 sends 2;"
            + "beacon b every 10 at 3 listens 3 sends 1;near a b;";

    /** The state, the slots left, the fails and whether it skipped, of a and of b, behind slots 1 to 41 of PAIR. */
    static final String[] PAIR_SLOTS = {
        "1200 0000", "1100 0000", "2100 1300", "3100 1200", "0000 1100",  // 5: b heard a
        "0000 2100", "0000 2210", "0000 2110", "0000 2420", "0000 2320",  // 7, 9: a slept as b sent
        "1200 2220", "1100 2120", "2200 0000", "2200 0000", "2100 0000",  // 13: a heard b; 14: a is held by that
        "3100 0000", "2410 0000", "2310 0000", "2210 0000", "2110 0000",
        "3110 0000", "2320 0000", "2220 0001", "2120 0001", "3120 0001",  // 21: a is not asleep; 23: b skips
        "0000 0001", "0000 0001", "0000 0001", "0000 0001", "0000 0001",  // 26: a gives up
        "0001 0001", "0001 0001", "0001 1300", "0001 1200", "0001 1100",  // 31: a skips; 33: b does not again
        "0001 2200", "0001 2100", "0001 2110", "0001 2720", "0001 2620",
        "1200 2520",                                                      // 41: a does not skip again
    };

    /** Two that are hidden from each other, and one that hears both. */
    static final String HIDDEN = "beacon a every 20 at 1 listens 1 sends 2;beacon b every 20 at 1 listens 1 sends 2;"
            + "beacon c every 20 at 1 listens 9 sends 1;near a c;near b c;";

    static final String[] HIDDEN_SLOTS = {
        "1100 1100 1900", "2100 2100 1800", "3100 3100 1700", "2210 2410 1600", "2110 2310 1500",  // 3, 4: collisions
        "3110 2210 1400", "0000 2110 1300", "0000 3110 1200", "0000 0000 1100", "0000 0000 2200",  // 7, 9: heard
        "0000 0000 2100", "0000 0000 2410", "0000 0000 2310", "0000 0000 2210", "0000 0000 2110",
        "0000 0000 2320", "0000 0000 2220", "0000 0000 2120", "0000 0000 0000", "0000 0000 0000",  // 19: c gives up
        "1100 1100 0001",                                                                          // 21: c skips
    };

    /** Two near each other that start to send in the same slot. */
    static final String TWINS = "beacon a every 20 at 1 listens 1 sends 2;beacon b every 20 at 1 listens 1 sends 2;near a b;";

    static final String[] TWINS_SLOTS = {
        "1100 1100", "2100 2100", "3100 3100", "2210 2410", "2210 2410",  // 5: each is held by the other
        "2110 2310", "3110 2210", "0000 2210", "0000 2210", "0000 2110",  // 8: b heard a; 8, 9: b is held
        "0000 3110", "0000 2420", "0000 2320", "0000 2220", "0000 2120",
        "0000 3120", "0000 0000",                                         // 17: b gives up
    };

    private Scenes() {
    }

    /** The states of all beacons, in the form of the tables above. */
    static String states(RadioBeacons x) {
        StringBuilder s = new StringBuilder();
        for (int b = 0; b < x.setting(0); b++) {
            s.append(b == 0 ? "" : " ");
            for (int what = 5; what <= 8; what++) {
                s.append(x.beacon(b, what));
            }
        }
        return s.toString();
    }
}

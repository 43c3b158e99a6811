/** Terms 2 and promise 36: what each slot does. */
final class SlotTest {
    private SlotTest() {
    }

    public static void main(String[] args) {
        table("PAIR", Scenes.PAIR, Scenes.PAIR_SLOTS);
        table("HIDDEN", Scenes.HIDDEN, Scenes.HIDDEN_SLOTS);
        table("TWINS", Scenes.TWINS, Scenes.TWINS_SLOTS);
        manyAtOnce();
        counts();
        runs();
        runsOut();
        goesOutInASending();
        firstWake();
        memory();
        skipsByAllNear();
        windowsGrow();
        isHeardInEachSlot();
        Check.end();
    }

    private static void table(String name, String text, String[] slots) {
        RadioBeacons x = Check.of(text);
        for (int k = 0; k < slots.length; k++) {
            x.run(1);
            Check.same("36: " + name + " slot " + (k + 1), slots[k], Scenes.states(x));
        }
    }

    private static void manyAtOnce() {
        RadioBeacons x = Check.of(Scenes.PAIR);
        Check.same("36: two went well in 13", 2, x.run(13));
        Check.same("36: none in the next 28", 0, x.run(28));
        Check.same("36: as in single slots", Scenes.PAIR_SLOTS[40], Scenes.states(x));
        Check.same("36: the time", 41, x.setting(2));
        Check.same("36: one in slot 5", 1, Check.of(Scenes.PAIR).run(5));
    }

    private static void counts() {
        RadioBeacons x = Check.of(Scenes.HIDDEN);
        x.run(3);
        Check.same("36: a collision at c", 1, x.setting(7));
        x.run(1);
        Check.same("36: another one", 2, x.setting(7));
        x.run(15);
        Check.same("36: no more of them", 2, x.setting(7));
        Check.same("36: went well", 2, x.setting(5));
        Check.same("36: given up", 1, x.setting(6));
        Check.same("36: c gave up", 1, x.beacon(2, 12));
        RadioBeacons y = Check.of("beacon a every 20 listens 1;beacon b every 20 listens 1;"
                + "beacon c every 20 listens 1;beacon d every 20 listens 9;beacon e every 20 listens 9;"
                + "beacon f every 20 at 19 listens 9;near a d;near b d;near c d;near a e;near b e;near a f;near b f;");
        y.wake(5);
        y.wake(4);
        y.wake(3);
        y.wake(0);
        y.wake(1);
        y.wake(2);
        y.run(2);
        // a and b drew 0, c drew 1: two are heard at d, e and f, and then three at d, still one collision each
        Check.same("36: a collision at d, e and f", 3, y.setting(7));
        y.run(1);
        Check.same("36: a collision at each one in each slot", 6, y.setting(7));
    }

    private static void runs() {
        RadioBeacons x = Check.of(Scenes.PAIR);
        Check.argument("36: no slot", () -> x.run(0));
        Check.argument("36: negative", () -> x.run(-1));
        Check.argument("36: 100", () -> x.run(100));
        Check.argument("36: very many", () -> x.run(Integer.MAX_VALUE));
        Check.same("36: nothing changed", 0, x.setting(2));
        Check.same("36: nothing to undo", 0, x.setting(10));
        x.run(99);
        Check.same("36: 99", 99, x.setting(2));
    }

    private static void runsOut() {
        RadioBeacons x = Check.of("beacon a every 5 energy 12;");
        x.run(5);
        Check.same("36: the energy left", 3, x.beacon(0, 4));
        Check.same("36: listens still", 1, x.beacon(0, 5));
        x.run(1);
        Check.same("36: no energy", 0, x.beacon(0, 4));
        Check.same("36: out", 4, x.beacon(0, 5));
        Check.same("36: no slots left", 0, x.beacon(0, 6));
        Check.same("36: not more than it has", 12, x.beacon(0, 13));
        Check.same("36: the slot counts", 2, x.slots(0, 1));
        Check.same("36: one is out", 1, x.setting(8));
        x.run(50);
        Check.same("36: stays out", 4, x.beacon(0, 5));
        Check.same("36: no slots count any more", 4, x.slots(0, 0));
        RadioBeacons y = Check.of("costs 0 0 0 0;beacon a every 5 energy 1;");
        y.run(99);
        Check.same("36: nothing costs nothing", 1, y.beacon(0, 4));
        RadioBeacons z = Check.of("costs 7 0 0 0;beacon a every 5 at 4 energy 7;");
        z.run(1);
        Check.same("36: out by the very energy", 4, z.beacon(0, 5));
    }

    private static void goesOutInASending() {
        // a: two slots listening (10), one waiting (3), and 9 for the first slot sending
        RadioBeacons x = Check.of("beacon a every 10 at 1 energy 23;beacon b every 10 at 1 listens 9;near a b;");
        x.run(4);
        Check.same("36: a sends", 3, x.beacon(0, 5));
        x.run(1);
        Check.same("36: a is out in its sending", 4, x.beacon(0, 5));
        Check.same("36: it was not heard", RadioBeacons.NONE, x.heard(1, 0));
        Check.same("36: it did not go well", 0, x.setting(5));
        Check.same("36: it did not fail", 0, x.beacon(0, 7));
        Check.same("18: it did not end", 5, x.whyNot(0, 1));
        // with the energy for both slots it is heard, and asleep then
        RadioBeacons y = Check.of("beacon a every 10 at 1 energy 32;beacon b every 10 at 1 listens 9;near a b;");
        y.run(5);
        Check.same("36: heard in time", 5, y.heard(1, 0));
        Check.same("36: asleep", 0, y.beacon(0, 5));
        // and without energy at the end of its last slot it is out, and not heard
        RadioBeacons z = Check.of("beacon a every 10 at 1 energy 31;beacon b every 10 at 1 listens 9;near a b;");
        z.run(5);
        Check.same("36: not heard", RadioBeacons.NONE, z.heard(1, 0));
        Check.same("36: out", 4, z.beacon(0, 5));
        // one that is out as it hears does not hear
        RadioBeacons w = Check.of("beacon a every 10 at 1;beacon b every 10 at 1 listens 9 energy 20;near a b;");
        w.run(4);
        Check.same("36: b is out", 4, w.beacon(1, 5));
        w.run(1);
        Check.same("36: b did not hear", RadioBeacons.NONE, w.heard(1, 0));
        Check.same("18: b was out", 2, w.whyNot(0, 1));
    }

    private static void firstWake() {
        RadioBeacons x = Check.of("beacon a every 4 at 3 listens 1;beacon b every 4 listens 1;");
        x.run(2);
        Check.same("36: not before the first wake", "0000 0000", Scenes.states(x));
        x.run(1);
        Check.same("36: the first wake", "1100 0000", Scenes.states(x));
        x.run(1);
        Check.same("36: not at time 0, but a period later", "2100 1100", Scenes.states(x));
    }

    private static void memory() {
        RadioBeacons x = Check.of("memory 18;" + Scenes.PAIR);
        x.run(23);
        Check.same("36: 18 slots later it is known, so b skips", 1, x.beacon(1, 8));
        RadioBeacons y = Check.of("memory 17;" + Scenes.PAIR);
        y.run(22);
        Check.same("14: known for 17 slots", true, y.knows(1, 0));
        y.run(1);
        Check.same("14: not for 18", false, y.knows(1, 0));
        Check.same("36: b does not skip by the time as it is then", 1, y.beacon(1, 5));
    }

    private static void skipsByAllNear() {
        RadioBeacons x = Check.of("beacon a every 2 listens 1 sends 1;");
        x.run(2);
        Check.same("36: no skip without one near", 1, x.beacon(0, 5));
        // a knows b, but not c, which is out
        RadioBeacons y = Check.of(Scenes.PAIR + "beacon c every 9 energy 1;near a c;");
        y.run(31);
        Check.same("36: c is out", 4, y.beacon(2, 5));
        Check.same("36: a knows b", true, y.knows(0, 1));
        Check.same("36: no skip, since a does not know one near it that is out", 0, y.beacon(0, 8));
        // one that is out is known as any other
        RadioBeacons z = Check.of("beacon a every 10 at 1 energy 33;beacon b every 20 at 1 listens 9;near a b;");
        z.run(9);
        Check.same("36: a is out", 4, z.beacon(0, 5));
        z.run(12);
        Check.same("36: b skips all the same", 1, z.beacon(1, 8));
        // one that it knows, but that is near no more, does not count
        RadioBeacons w = Check.of(Scenes.PAIR);
        w.run(26);
        w.setNear(0, 1, false);
        w.run(5);
        Check.same("36: a listens, with none near it", "1200", Scenes.states(w).substring(0, 4));
    }

    private static void windowsGrow() {
        RadioBeacons x = Check.of("tries 9;costs 0 0 0 0;beacon a every 2 listens 1 sends 1;");
        int[] windows = {2, 4, 8, 16, 32, 32, 32, 32, 32};
        int most = 0;
        for (int k = 0; k < 300; k++) {
            int fails = x.beacon(0, 7);
            int drawn = x.setting(9);
            x.run(1);
            int next = drawn * 1103515245 + 12345;
            if (x.beacon(0, 7) > fails || x.setting(9) != drawn) {
                int now = x.beacon(0, 7);
                most = Math.max(most, now);
                Check.same("36: the draw, " + now, next, x.setting(9));
                Check.same("36: the slots left, " + now, 1 + (next >>> 16) % windows[now], x.beacon(0, 6));
            }
            if (x.setting(6) > 0) {
                break;
            }
        }
        Check.same("36: up to the tries", 8, most);
        Check.same("36: then it gives up", 1, x.setting(6));
        Check.same("36: then it sleeps", "0000", Scenes.states(x));
        RadioBeacons y = Check.of("tries 1;beacon a every 9 at 1 listens 1 sends 1;");
        y.run(3);
        Check.same("36: one try", "0000", Scenes.states(y));
        Check.same("36: one try, given up", 1, y.setting(6));
        RadioBeacons z = Check.of(Scenes.PAIR);
        z.run(22);
        z.setTries(1);
        z.run(4);
        Check.same("36: more fails than tries", "0000", Scenes.states(z).substring(0, 4));
        Check.same("36: more fails than tries, given up", 1, z.setting(6));
    }

    private static void isHeardInEachSlot() {
        RadioBeacons x = Check.of(Scenes.PAIR);
        x.run(4);
        x.setNear(0, 1, false);
        x.run(1);
        Check.same("36: not heard in the second slot", RadioBeacons.NONE, x.heard(1, 0));
        Check.same("36: so it failed", 1, x.beacon(0, 7));
        RadioBeacons y = Check.of(Scenes.PAIR);
        y.setNear(0, 1, false);
        y.run(4);
        y.setNear(0, 1, true);
        y.run(1);
        Check.same("36: not heard in the first slot", RadioBeacons.NONE, y.heard(1, 0));
        // b wakes in the second slot of the sending
        RadioBeacons z = Check.of("beacon a every 10 at 1 sends 3;beacon b every 10 at 5 listens 9;near a b;");
        z.run(6);
        Check.same("36: asleep in the first slot", RadioBeacons.NONE, z.heard(1, 0));
        Check.same("36: so it failed", 1, z.beacon(0, 7));
    }
}

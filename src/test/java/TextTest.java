/** Promises 1 to 4, 6 and 7: a new object, the buffer, texts and their errors. */
final class TextTest {
    private static final String EIGHT = "beacon a every 9;beacon b every 9;beacon c every 9;beacon d every 9;"
            + "beacon e every 9;beacon f every 9;beacon g every 9;beacon h every 9;";

    private TextTest() {
    }

    public static void main(String[] args) {
        newObject();
        buffer();
        replaces();
        settings();
        beacons();
        nears();
        tokens();
        wrongTokens();
        wrongNumbers();
        repetitions();
        names();
        tooMany();
        changesNothingByAnError();
        Check.end();
    }

    private static void newObject() {
        RadioBeacons x = new RadioBeacons();
        int[] due = {0, 0, 0, 3, 99, 0, 0, 0, 0, 1, 0};
        for (int what = 0; what < due.length; what++) {
            Check.same("1: setting " + what, due[what], x.setting(what));
        }
        Check.same("6: no call yet", 0, x.errorCode());
        Check.same("7: no call yet", RadioBeacons.NONE, x.errorPosition());
        Check.argument("1: the buffer is empty", () -> x.truncate(1));
        Check.index("1: no beacon", () -> x.beacon(0, 0));
        Check.index("1: no report", () -> x.reportByte(0));
        Check.state("1: nothing saved", () -> x.restore());
        Check.same("1: nothing to undo", RadioBeacons.NONE, x.undo());
        Check.same("1: a slot goes by", 0, x.run(1));
        RadioBeacons y = Check.of("beacon a every 3;");
        y.run(5);
        Check.same("1: costs 1 5 3, two slots asleep, two listening, one waiting", 15, y.beacon(0, 13));
        y.run(1);
        Check.same("1: cost 9 of sending", 24, y.beacon(0, 13));
    }

    private static void buffer() {
        RadioBeacons x = new RadioBeacons();
        for (int k = 1; k <= 35; k++) {
            Check.same("2: bytes in the buffer", 20 * k, x.feed(0x20202020, 0x0a0a0a0a, 0x20202020, 0x20202020, 0x20202020));
        }
        Check.state("2: 720 bytes", () -> x.feed(0, 0, 0, 0, 0));
        Check.argument("3: negative", () -> x.truncate(-1));
        Check.argument("3: too long", () -> x.truncate(701));
        Check.same("3: all of it", 700, x.truncate(700));
        Check.same("4: gaps alone are an empty text", 0, x.readText());
        Check.same("2: empty behind readText", 20, x.feed(0, 0, 0, 0, 0));
        Check.same("3: a part", 7, x.truncate(7));
        Check.argument("3: more than is left", () -> x.truncate(8));
        Check.same("3: nothing left", 0, x.truncate(0));
        for (int k = 1; k <= 34; k++) {
            x.feed(0, 0, 0, 0, 0);
        }
        x.truncate(681 - 20);
        Check.same("2: 681 bytes", 681, x.feed(0, 0, 0, 0, 0));
        Check.state("2: 701 bytes", () -> x.feed(0, 0, 0, 0, 0));
        x.truncate(680);
        Check.same("2: 700 bytes", 700, x.feed(0, 0, 0, 0, 0));

        RadioBeacons y = new RadioBeacons();
        y.feed(0x62656163, 0x6f6e2061, 0x62636465, 0x66676820, 0x65766572);
        y.feed(0x79203132, 0x3b000000, 0xffffffff, 0, 0x80808080);
        y.truncate(25);
        Check.same("2: the most significant byte first", 1, y.readText());
        Check.same("2: its period", 12, y.beacon(0, 0));
        for (int i = 0; i < 8; i++) {
            Check.same("2: letter " + i, "abcdefgh".charAt(i) - 0, y.letter(0, i));
        }
    }

    private static void replaces() {
        RadioBeacons x = Check.of("costs 2 2 2 2;seed 7;tries 5;memory 7;beacon a every 2;beacon b every 3;near a b;");
        x.save();
        x.run(40);
        x.report();
        // what was looked at ahead leaves nothing behind in what is read
        x.stateIn(0, 200);
        Check.fill(x, "beacon yy every 5;seed 3;seed 3;");
        Check.argument("4: nor does a text with an error", () -> x.readText());
        Check.fill(x, "beacon zz every 50;");
        Check.same("4: how many beacons", 1, x.readText());
        int[] due = {1, 0, 0, 3, 99, 0, 0, 0, 0, 1, 0};
        for (int what = 0; what < due.length; what++) {
            Check.same("4: replaced setting " + what, due[what], x.setting(what));
        }
        int[] dueOfBeacon = {50, 0, 2, 2, 999, 0, 0, 0, 0, 0, 0, 0, 0, 0};
        for (int what = 0; what < dueOfBeacon.length; what++) {
            Check.same("4: replaced beacon " + what, dueOfBeacon[what], x.beacon(0, what));
        }
        for (int state = 0; state < 4; state++) {
            Check.same("4: counts of slots " + state, 0, x.slots(0, state));
        }
        Check.same("4: nothing to undo", RadioBeacons.NONE, x.undo());
        Check.same("4: the latest report stays", (int) 'a', x.reportByte(0));
        x.run(4);
        Check.same("4: costs are replaced", 4, x.beacon(0, 13));
        Check.same("4: what is saved stays", 0, x.restore());
        Check.same("4: what is saved stays, beacons", 2, x.setting(0));
        for (int k = 0; k < 2; k++) {
            Check.fill(x, "costs 1 1 1 1;seed 4;tries 4;memory 4;beacon zz every 50 at 49 energy 3;");
            Check.same("4: the same text once more", 1, x.readText());
            Check.same("4: out ahead", 3, x.outIn(0));
            x.run(2);
        }
        aFreshRow();
        Check.fill(x, "");
        Check.same("4: an empty text", 0, x.readText());
        Check.same("4: an empty text, beacons", 0, x.setting(0));
    }

    /** Of all that became of a beacon of the text before, nothing is left for one of the next text. */
    private static void aFreshRow() {
        String text = "beacon z every 99 at 98;beacon y every 99 at 98;";
        String due = KeepTest.all(Check.of(text));
        // behind some of these slots they listen, wait, send, have heard, failed, given up and skipped
        for (int slots = 0; slots <= 31; slots++) {
            RadioBeacons x = Check.of(Scenes.PAIR);
            x.stateIn(0, slots);
            Check.fill(x, text);
            x.readText();
            Check.same("4: fresh beacons, " + slots, due, KeepTest.all(x));
        }
    }

    private static void settings() {
        RadioBeacons x = Check.of("memory 999;tries 9;seed 999;costs 0 99 98 97;");
        Check.same("4: tries", 9, x.setting(3));
        Check.same("4: memory", 999, x.setting(4));
        Check.same("4: seed", 999, x.setting(9));
        Check.same("4: least values", 1, Check.of("memory 1;tries 1;seed 0;").setting(4));
        Check.same("4: seed 0", 0, Check.of("memory 1;tries 1;seed 0;").setting(9));
        Check.same("4: tries 1", 1, Check.of("tries 001;").setting(3));
        RadioBeacons y = Check.of("beacon a every 2 listens 1 sends 1 energy 999;costs 10 20 30 40;");
        y.run(1);
        Check.same("4: costs asleep, told behind", 10, y.beacon(0, 13));
        y.run(1);
        Check.same("4: costs listening", 30, y.beacon(0, 13));
        y.run(1);
        Check.same("4: costs waiting", 60, y.beacon(0, 13));
        y.run(1);
        Check.same("4: costs sending", 100, y.beacon(0, 13));
    }

    private static void beacons() {
        RadioBeacons x = Check.of("beacon a every 2;beacon b every 99 at 98 listens 9 sends 9 energy 1;"
                + "beacon c every 10 listens 3;beacon d every 10 sends 4;beacon e every 10 energy 5;"
                + "beacon f every 10 at 0 energy 999;beacon g every 10 at 9 sends 1;");
        int[][] due = {{2, 0, 2, 2, 999}, {99, 98, 9, 9, 1}, {10, 0, 3, 2, 999}, {10, 0, 2, 4, 999}, {10, 0, 2, 2, 5},
            {10, 0, 2, 2, 999}, {10, 9, 2, 1, 999}};
        for (int b = 0; b < due.length; b++) {
            for (int what = 0; what < 5; what++) {
                Check.same("4: beacon " + b + " " + what, due[b][what], x.beacon(b, what));
            }
        }
        Check.same("4: eight beacons", 8, Check.of(EIGHT).setting(0));
        RadioBeacons y = Check.of("beacon beacon every 9;beacon every every 9;beacon near every 9;near near every;");
        Check.same("4: any word is a name", 2, y.beacon(2, 9));
    }

    private static void nears() {
        RadioBeacons x = Check.of("beacon a every 9;beacon b every 9;beacon c every 9;near c a;near a b;");
        Check.same("4: near a", 6, x.beacon(0, 9));
        Check.same("4: near b", 1, x.beacon(1, 9));
        Check.same("4: near c", 1, x.beacon(2, 9));
        Check.same("4: pairs", 2, x.setting(1));
    }

    private static void tokens() {
        Check.same("4: side by side", 7, Check.of("beacon a every9at7listens1;").beacon(0, 1));
        Check.same("4: gaps", 4, Check.of("\n beacon  a\nevery 9 at 4\n;  \n").beacon(0, 1));
        Check.same("4: zeros ahead", 5, Check.of("beacon a every 009 at 005;").beacon(0, 1));
    }

    /** Reads a text that has an error. */
    private static void flaw(String text, int code, int position) {
        RadioBeacons x = new RadioBeacons();
        Check.fill(x, text);
        Check.argument("4: " + text, () -> x.readText());
        Check.same("6: " + text, code, x.errorCode());
        Check.same("7: " + text, position, x.errorPosition());
        Check.argument("4: the buffer is empty then", () -> x.truncate(1));
        x.readText();
        Check.same("6: none any more", 0, x.errorCode());
        Check.same("7: none any more", RadioBeacons.NONE, x.errorPosition());
    }

    private static void wrongTokens() {
        flaw(";", 1, 0);
        flaw("foo 3;", 1, 0);
        flaw("7;", 1, 0);
        flaw("xeed 1;", 1, 0);
        flaw("see 1;", 1, 0);
        flaw("seeds 1;", 1, 0);
        flaw("beacon a xvery 9;", 1, 9);
        flaw("beacon a everx 9;", 1, 9);
        flaw("beacon a every 9 xt 1;", 1, 17);
        flaw("seed", 1, 4);
        flaw("seed  \n", 1, 7);
        flaw("seed 1", 1, 6);
        flaw("seed a;", 1, 5);
        flaw("seed 1 2;", 1, 7);
        flaw("seed 1;;", 1, 7);
        flaw("seed 1234;", 1, 5);
        flaw("seed 12 seedseeds;", 1, 8);
        flaw("seedseeds 1;", 1, 0);
        flaw("seed 1; X", 1, 8);
        flaw("seed\t1;", 1, 4);
        flaw("seed 1\r;", 1, 6);
        flaw("seed 1\u00e4;", 1, 6);
        flaw("\u0000", 1, 0);
        flaw("(", 1, 0);
        flaw("seed (1);", 1, 5);
        flaw("costs 1 2 3;", 1, 11);
        flaw("costs 1 2 3 4 5;", 1, 14);
        flaw("beacon;", 1, 6);
        flaw("beacon 1 every 9;", 1, 7);
        flaw("beacon abcdefghi every 9;", 1, 7);
        flaw("beacon a;", 1, 8);
        flaw("beacon a at 1;", 1, 9);
        flaw("beacon a every;", 1, 14);
        flaw("beacon a every 9 at;", 1, 19);
        flaw("beacon a every 9 listens 2 at 1;", 1, 27);
        flaw("beacon a every 9 sends 2 listens 2;", 1, 25);
        flaw("beacon a every 9 energy 2 sends 2;", 1, 26);
        flaw("beacon a every 9 at 1 at 1;", 1, 22);
        flaw("beacon a every 9;near a;", 1, 23);
        flaw("beacon a every 9;near 3 a;", 1, 22);
        flaw("beacon a every 9;beacon b every 9;near a b c;", 1, 43);
        flaw("run 3;", 1, 0);
    }

    private static void wrongNumbers() {
        flaw("costs 100 1 1 1;", 2, 6);
        flaw("costs 1 1 1 100;", 2, 12);
        flaw("tries 0;", 2, 6);
        flaw("tries 10;", 2, 6);
        flaw("memory 0;", 2, 7);
        flaw("beacon a every 1;", 2, 15);
        flaw("beacon a every 100;", 2, 15);
        flaw("beacon a every 9 at 9;", 2, 20);
        flaw("beacon a every 9 listens 0;", 2, 25);
        flaw("beacon a every 9 listens 10;", 2, 25);
        flaw("beacon a every 9 sends 0;", 2, 23);
        flaw("beacon a every 9 sends 10;", 2, 23);
        flaw("beacon a every 9 energy 0;", 2, 24);
    }

    private static void repetitions() {
        flaw("costs 1 1 1 1;seed 1;costs 1 1 1 1;", 3, 21);
        flaw("seed 1;seed 1;", 3, 7);
        flaw("tries 1;tries 1;", 3, 8);
        flaw("memory 1;memory 1;", 3, 9);
        flaw("seed 1;seed", 3, 7);
        flaw("beacon a every 9;beacon a every 9;", 3, 24);
        flaw("beacon a every 9;near a a;", 3, 24);
        flaw("beacon a every 9;beacon b every 9;near a b;near a b;", 3, 50);
        flaw("beacon a every 9;beacon b every 9;near a b;near b a;", 3, 50);
    }

    private static void names() {
        flaw("near a b;", 4, 5);
        flaw("beacon a every 9;near a b;beacon b every 9;", 4, 24);
        flaw("beacon a every 9;near b a;", 4, 22);
        flaw("beacon aa every 9;near a aa;", 4, 23);
        flaw("beacon a every 9;near aa a;", 4, 22);
    }

    private static void tooMany() {
        flaw(EIGHT + "beacon i every 9;", 5, EIGHT.length());
        flaw(EIGHT + "seed 1;beacon", 5, EIGHT.length() + 7);
        flaw(EIGHT + "beacon a every 9;", 5, EIGHT.length());
    }

    private static void changesNothingByAnError() {
        RadioBeacons x = Check.of("seed 5;beacon a every 4;beacon b every 5;near a b;");
        x.run(30);
        x.save();
        x.run(7);
        String report = Check.reportOf(x);
        int drawn = x.setting(9);
        Check.fill(x, "seed 9;beacon c every 9;beacon c every 9;");
        Check.argument("4: an error", () -> x.readText());
        Check.same("4: the same beacons", 2, x.setting(0));
        Check.same("4: the same time", 37, x.setting(2));
        Check.same("4: the same x", drawn, x.setting(9));
        Check.same("4: the same changes to undo", 2, x.setting(10));
        Check.same("4: the same report", report, Check.reportOf(x));
        Check.same("4: the undo", 1, x.undo());
        Check.same("4: the saved state", 30, x.restore());
    }
}

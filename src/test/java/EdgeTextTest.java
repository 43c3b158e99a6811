/**
 * The boundary cases of the buffer and of texts (Terms 1, promises 1 to 4, 6 and 7): a method for each sentence that
 * names one.
 */
final class EdgeTextTest {
    private static final String EIGHT = "beacon a every2;beacon b every2;beacon c every2;beacon d every2;"
            + "beacon e every2;beacon f every2;beacon g every2;beacon h every2;";

    private EdgeTextTest() {
    }

    public static void main(String[] args) {
        anEmptyBuffer();
        aFullBuffer();
        theBytesOfAFeed();
        truncating();
        nothingThereAtAll();
        words();
        wordsOfTheLanguage();
        numbers();
        gaps();
        sideBySide();
        signs();
        costs();
        seeds();
        triesAndMemories();
        onceAnywhere();
        onceInEachText();
        withoutIt();
        beacons();
        names();
        periods();
        firstWakes();
        listensAndSends();
        energies();
        nears();
        endsTooEarly();
        theFirstErrorIsReported();
        theLowestCode();
        Check.end();
    }

    /** Reads a text that has no error. */
    private static RadioBeacons right(String text) {
        RadioBeacons x = Check.of(text);
        Check.same("6: " + text, 0, x.errorCode());
        Check.same("7: " + text, RadioBeacons.NONE, x.errorPosition());
        return x;
    }

    /** Reads a text that has an error. */
    private static void flaw(String text, int code, int position) {
        RadioBeacons x = new RadioBeacons();
        Check.fill(x, text);
        Check.argument("4: " + text, () -> x.readText());
        Check.same("6, 7: " + text, code + " at " + position, x.errorCode() + " at " + x.errorPosition());
    }

    private static String spaces(int n) {
        return " ".repeat(n);
    }

    // ---- the buffer

    private static void anEmptyBuffer() {
        RadioBeacons x = new RadioBeacons();
        Check.argument("1: an empty buffer", () -> x.truncate(1));
        Check.same("3: nothing of nothing", 0, x.truncate(0));
        Check.same("4: an empty text", 0, x.readText());
        Check.same("6: an empty text has no error", 0, x.errorCode());
        Check.same("7: an empty text has no error", RadioBeacons.NONE, x.errorPosition());
        Check.same("5: an empty script", 0, x.runScript());
        Check.same("6: an empty script has no error", 0, x.errorCode());
        Check.same("2: the first bytes", 20, x.feed(0, 0, 0, 0, 0));
        Check.same("3: cut to nothing", 0, x.truncate(0));
        Check.same("4: nothing is an empty text", 0, x.readText());
        Check.same("1: as if an empty text was read", Whole.seen(new RadioBeacons()), Whole.seen(right("")));
    }

    private static void aFullBuffer() {
        RadioBeacons x = right("seed 7;" + spaces(693));
        Check.same("terms 1: 700 bytes, the seed ahead", 7, x.setting(9));
        Check.same("terms 1: 700 bytes, the seed behind", 7, right(spaces(693) + "seed 7;").setting(9));
        Check.same("terms 1: 700 gaps", 0, right(spaces(350) + "\n".repeat(350)).setting(0));
        flaw(spaces(699) + "x", 1, 699);
        flaw(spaces(699) + "(", 1, 699);
        flaw(spaces(699) + "\u00ff", 1, 699);
        flaw(spaces(694) + "seed 7", 1, 700);
        flaw(spaces(693) + "seed 7 ", 1, 700);
        flaw(";".repeat(700), 1, 0);
        flaw("z".repeat(700), 1, 0);
        flaw("1".repeat(700), 1, 0);
        flaw("seed " + "1".repeat(695), 1, 5);
        flaw("beacon " + "z".repeat(693), 1, 7);
        RadioBeacons y = new RadioBeacons();
        for (int k = 1; k <= 35; k++) {
            Check.same("2: the number of bytes", 20 * k, y.feed(0x20202020, 0x20202020, 0x20202020, 0x20202020, 0x20202020));
        }
        Check.state("2: would exceed 700", () -> y.feed(0, 0, 0, 0, 0));
        Check.same("2: what was refused is not there", 700, y.truncate(700));
        for (int n = 699; n > 680; n -= 6) {
            y.truncate(n);
            Check.state("2: would exceed 700 from " + n, () -> y.feed(0, 0, 0, 0, 0));
        }
        y.truncate(680);
        Check.same("2: just 700", 700, y.feed(0x20202020, 0x20202020, 0x20202020, 0x20202020, 0x20202020));
        Check.same("4: all 700 are gaps", 0, y.readText());
        Check.same("4: empty behind that", 20, y.feed(0, 0, 0, 0, 0));
        Check.argument("4: an error", () -> y.readText());
        Check.same("4: empty behind an error", 20, y.feed(0, 0, 0, 0, 0));
    }

    private static void feedOne(RadioBeacons x, int at, int sign) {
        int[] four = {0x20202020, 0x20202020, 0x20202020, 0x20202020, 0x20202020};
        int shift = 24 - 8 * (at % 4);
        four[at / 4] = four[at / 4] & ~(255 << shift) | sign << shift;
        x.feed(four[0], four[1], four[2], four[3], four[4]);
    }

    private static void theBytesOfAFeed() {
        for (int at = 0; at < 20; at++) {
            for (int sign : new int[] {0, 1, 127, 128, 254, 255}) {
                RadioBeacons x = new RadioBeacons();
                feedOne(x, at, sign);
                Check.argument("2: byte " + at + " is " + sign, () -> x.readText());
                Check.same("2: byte " + at + " is " + sign, "1 at " + at, x.errorCode() + " at " + x.errorPosition());
            }
            for (int sign : new int[] {32, 10}) {
                RadioBeacons x = new RadioBeacons();
                feedOne(x, at, sign);
                Check.same("2: byte " + at + " is " + sign, 0, x.readText());
            }
        }
    }

    private static void truncating() {
        RadioBeacons x = new RadioBeacons();
        // "seed 123;", and behind it what no text may hold
        x.feed(0x73656564, 0x20313233, 0x3b000000, 0, 0);
        Check.argument("3: one more than there is", () -> x.truncate(21));
        Check.argument("3: one less than nothing", () -> x.truncate(-1));
        Check.same("3: all there is", 20, x.truncate(20));
        Check.same("3: one less", 19, x.truncate(19));
        Check.argument("3: the length before", () -> x.truncate(20));
        Check.same("3: to a text", 9, x.truncate(9));
        Check.same("2: behind what is left", 29, x.feed(0x20202020, 0x20202020, 0x20202020, 0x20202020, 0x74000000));
        Check.same("3: to another one", 25, x.truncate(25));
        Check.same("4: what was cut off is gone", 0, x.readText());
        Check.same("4: the text", 123, x.setting(9));
        Check.argument("3: empty then", () -> x.truncate(1));
    }

    private static void nothingThereAtAll() {
        RadioBeacons x = new RadioBeacons();
        Check.same("6: no such call", 0, x.errorCode());
        Check.same("7: no such call", RadioBeacons.NONE, x.errorPosition());
        int[] due = {0, 0, 0, 3, 99, 0, 0, 0, 0, 1, 0};
        for (int what = 0; what < due.length; what++) {
            Check.same("8: of nothing, " + what, due[what], x.setting(what));
        }
        Check.same("15: of nothing", 0.0f, x.drain());
        Check.same("16: of nothing", 0.0, x.knowledge());
        Check.same("22: of nothing", 0, x.groups());
        Check.same("24: of nothing", RadioBeacons.NONE, x.earliest());
        Check.same("28: of nothing", 0, x.collisionsIn(200));
        Check.same("30: of nothing", 0, x.allKnownIn());
        Check.same("36: of nothing", 0, x.run(99));
        Check.same("15: of nothing, later", 0.0f, x.drain());
        Check.same("45: the run", 0, x.undo());
        Check.same("45: nothing more", RadioBeacons.NONE, x.undo());
        Check.same("43: of nothing", 0, x.report());
        Check.same("46: of nothing", 0, x.save());
        Check.same("47: of nothing", 0, x.restore());
        Check.same("5: a script without names", 2, Check.script(x, "run 3;repeat 2();run 4;"));
    }

    // ---- tokens

    private static void words() {
        for (char c = 'a'; c <= 'z'; c++) {
            Check.same("terms 1: a word of one letter", (int) c, right("beacon " + c + " every 9;").letter(0, 0));
            Check.same("terms 1: a word of eight", (int) c, right("beacon eeeeeee" + c + " every 9;").letter(0, 7));
        }
        for (char c : new char[] {'a' - 1, 'z' + 1, 'A', 'Z', '_', '\'', '-', '.', 'a' + 128}) {
            flaw("beacon " + c + " every 9;", 1, 7);
            flaw("beacon a" + c + " every 9;", 1, 8);
        }
        flaw("beacon eeeeeeeee every 9;", 1, 7);
        flaw("beacon eeeeeeeeee every 9;", 1, 7);
        flaw("eeeeeeeee", 1, 0);
        Check.same("terms 1: any word is a NAME", 8, right("beacon costs every 9;beacon seed every 9;beacon tries every 9;"
                + "beacon memory every 9;beacon beacon every 9;beacon every every 9;beacon near every 9;beacon at every 9 at 1;"
                + "near near at;near at every;near every near;").setting(0));
        Check.same("terms 1: any word is a NAME", 3, right("beacon listens every 9 listens 2;beacon sends every 9 sends 2;"
                + "beacon energy every 9 energy 2;near sends energy;").setting(0));
    }

    /** Words that differ from those of the language in one letter, one letter more or one letter less. */
    private static void wordsOfTheLanguage() {
        String[] ahead = {"", "", "", "", "", "beacon a ", "beacon a every 9 ", "beacon a every 9 ", "beacon a every 9 ",
            "beacon a every 9 ", "beacon a every 9;beacon b every 9;"};
        String[] words = {"costs", "seed", "tries", "memory", "beacon", "every", "at", "listens", "sends", "energy", "near"};
        String[] behind = {" 1 1 1 1;", " 1;", " 1;", " 1;", " a every 9;", " 9;", " 1;", " 1;", " 1;", " 1;", " a b;"};
        for (int k = 0; k < words.length; k++) {
            String word = words[k];
            right(ahead[k] + word + behind[k]);
            for (int i = 0; i < word.length(); i++) {
                flaw(ahead[k] + word.substring(0, i) + "z" + word.substring(i + 1) + behind[k], 1, ahead[k].length());
                flaw(ahead[k] + word.substring(0, i) + word.substring(i + 1) + behind[k], 1, ahead[k].length());
                flaw(ahead[k] + word.substring(0, i) + "z" + word.substring(i) + behind[k], 1, ahead[k].length());
            }
            flaw(ahead[k] + word + "z" + behind[k], 1, ahead[k].length());
        }
    }

    private static void numbers() {
        for (int n = 0; n <= 9; n++) {
            Check.same("terms 1: digit " + n, n, right("seed " + n + ";").setting(9));
            Check.same("terms 1: digit " + n, n, right("seed 00" + n + ";").setting(9));
            Check.same("terms 1: digit " + n, 111 * n, right("seed " + n + n + n + ";").setting(9));
            flaw("seed 000" + n + ";", 1, 5);
            flaw("seed " + n + "000;", 1, 5);
            flaw("seed " + n + "0000;", 1, 5);
        }
        for (char c : new char[] {'0' - 1, '9' + 1, '+', '-', '.', ',', '0' + 128}) {
            flaw("seed " + c + ";", 1, 5);
            flaw("seed 1" + c + ";", 1, 6);
            flaw("seed " + c + "1;", 1, 5);
        }
    }

    private static void gaps() {
        for (String gap : new String[] {" ", "\n", "  ", "\n\n", " \n ", "\n \n"}) {
            String text = gap + "beacon" + gap + "a" + gap + "every" + gap + "9" + gap + ";" + gap + "seed" + gap + "3" + gap + ";";
            Check.same("terms 1: before, between and behind", 3, right(text + gap).setting(9));
        }
        for (char c : new char[] {31, 33, 9, 11, 12, 13, 0, 127, 160}) {
            flaw(c + "seed 3;", 1, 0);
            flaw("seed" + c + "3;", 1, 4);
            flaw("seed 3" + c + ";", 1, 6);
            flaw("seed 3;" + c, 1, 7);
        }
        flaw("se ed 3;", 1, 0);
        flaw("seed 3 3;", 1, 7);
    }

    private static void sideBySide() {
        RadioBeacons x = right("beacon a every9at7listens1sends3energy5;tries2;memory4;");
        int[] due = {9, 7, 1, 3, 5};
        for (int what = 0; what < due.length; what++) {
            Check.same("terms 1: side by side, " + what, due[what], x.beacon(0, what));
        }
        Check.same("terms 1: side by side, tries", 2, x.setting(3));
        Check.same("terms 1: side by side, memory", 4, x.setting(4));
        flaw("beacona every 9;", 1, 0);
        flaw("beacon aevery 9;", 1, 14);
        flaw("costs 1 23 4;", 1, 12);
    }

    /** Every byte that there is, in four places of a text. */
    private static void signs() {
        for (char c = 0; c < 256; c++) {
            boolean isGap = c == ' ' || c == '\n';
            boolean isDigit = c >= '0' && c <= '9';
            boolean isLetter = c >= 'a' && c <= 'z';
            if (isGap) {
                right(c + "seed" + c + "7" + c + ";" + c);
                continue;
            }
            flaw(c + "seed 7;", 1, 0);
            if (isDigit) {
                Check.same("terms 1: ahead of a number", (c - '0') * 10 + 7, right("seed" + c + "7;").setting(9));
                Check.same("terms 1: behind a number", 70 + c - '0', right("seed 7" + c + ";").setting(9));
            } else {
                flaw("seed" + c + "7;", 1, isLetter ? 0 : 4);
                flaw("seed 7" + c + ";", 1, c == ';' ? 7 : 6);
            }
            flaw("seed 7;" + c, 1, 7);
        }
    }

    // ---- statements

    /** A number from 0 to 999 at a place of a text, which may be from least to most. */
    private static void range(String before, String behind, int least, int most, int what) {
        for (int n = 0; n <= 999; n++) {
            if (n < least || n > most) {
                flaw(before + n + behind, 2, before.length());
            } else if (n <= least + 1 || n >= most - 1 || n % 7 == 0) {
                Check.same("terms 1: " + before + n, n, right(before + n + behind).beacon(0, what));
            }
        }
        flaw(before + "1000" + behind, 1, before.length());
    }

    private static void costs() {
        String beacon = "beacon a every 2 listens 1 sends 1;";
        for (int state = 0; state < 4; state++) {
            for (int cost : new int[] {0, 1, 98, 99}) {
                StringBuilder s = new StringBuilder("costs");
                for (int k = 0; k < 4; k++) {
                    s.append(' ').append(k == state ? cost : 0);
                }
                RadioBeacons x = right(s + ";" + beacon);
                // a slot each asleep, listening, waiting and sending
                x.run(4);
                Check.same("terms 1: " + s, cost, x.beacon(0, 13));
                Check.same("terms 1: " + s, cost, x.reckoned(0));
            }
            String before = "costs" + " 9".repeat(state) + " ";
            for (int cost = 100; cost <= 999; cost++) {
                flaw(before + cost + " 9".repeat(3 - state) + ";", 2, before.length());
            }
            flaw(before + "0000" + " 9".repeat(3 - state) + ";", 1, before.length());
            flaw("costs" + " 9".repeat(state) + ";", 1, 5 + 2 * state);
        }
        flaw("costs 1 2 3 4 5;", 1, 14);
    }

    private static void seeds() {
        for (int n = 0; n <= 999; n++) {
            Check.same("terms 1: seed", n, right("seed " + n + ";").setting(9));
        }
        flaw("seed 1000;", 1, 5);
        flaw("seed ;", 1, 5);
    }

    private static void triesAndMemories() {
        for (int n = 0; n <= 999; n++) {
            if (n < 1 || n > 9) {
                flaw("tries " + n + ";", 2, 6);
            } else {
                Check.same("terms 1: tries", n, right("tries " + n + ";").setting(3));
            }
            if (n < 1) {
                flaw("memory " + n + ";", 2, 7);
            } else {
                Check.same("terms 1: memory", n, right("memory " + n + ";").setting(4));
            }
        }
        flaw("tries 1000;", 1, 6);
        flaw("memory 1000;", 1, 7);
    }

    private static void onceAnywhere() {
        String[] four = {"costs 2 2 2 2;", "seed 9;", "tries 9;", "memory 9;"};
        String beacon = "beacon a every 9;";
        for (int first = 0; first < 4; first++) {
            String all = four[first] + beacon + four[(first + 1) % 4] + four[(first + 2) % 4] + "beacon b every 9;near a b;"
                    + four[(first + 3) % 4];
            RadioBeacons x = right(all);
            x.run(1);
            Check.same("terms 1: anywhere", "9 9 9 2", x.setting(9) + " " + x.setting(3) + " " + x.setting(4) + " " + x.beacon(0, 13));
            for (String second : four) {
                flaw(all + second, 3, all.length());
                flaw(all + second.substring(0, second.indexOf(' ')), 3, all.length());
                flaw(all + second.substring(0, second.indexOf(' ')) + "1000;", 3, all.length());
            }
            flaw(four[first] + four[first], 3, four[first].length());
        }
    }

    /** What one text told once may stand in the next one, also behind an error; and nothing of it is left. */
    private static void onceInEachText() {
        String text = "costs 2 2 2 2;seed 9;tries 9;memory 9;beacon a every 9 at 1;beacon b every 9 at 2;near a b;";
        RadioBeacons x = right(text);
        String due = Whole.seen(x);
        for (int k = 0; k < 3; k++) {
            x.run(50);
            x.stateIn(0, 27);
            Check.fill(x, text + "seed 9;");
            Check.argument("4: twice in one text", () -> x.readText());
            Check.fill(x, text);
            Check.same("4: in each text", 2, x.readText());
            Check.same("4: replaces all that there is", due, Whole.seen(x));
        }
        for (String before : new String[] {Scenes.PAIR, Scenes.HIDDEN, Scenes.TWINS}) {
            for (int slots = 0; slots <= 41; slots++) {
                // what was looked at ahead, in all states, is not left in what is read
                RadioBeacons y = Check.of(before);
                y.stateIn(0, slots);
                Check.fill(y, text);
                y.readText();
                Check.same("4: replaces all that was seen ahead in " + slots, due, Whole.seen(y));
            }
        }
    }

    private static void withoutIt() {
        RadioBeacons x = right("beacon a every 2 listens 1 sends 1;");
        int[] due = {1, 6, 9, 18};
        for (int sum : due) {
            x.run(1);
            Check.same("terms 1: 1, 5, 3 and 9 without costs", sum, x.beacon(0, 13));
        }
        Check.same("terms 1: 1 without seed", 1, right("tries 4;").setting(9));
        Check.same("terms 1: 3 without tries", 3, right("seed 4;").setting(3));
        Check.same("terms 1: 99 without memory", 99, right("seed 4;").setting(4));
        RadioBeacons y = right("costs 9 9 9 9;seed 9;tries 9;memory 9;beacon a every 9 at 8 listens 8 sends 8 energy 8;");
        Check.fill(y, "beacon a every 8;");
        y.readText();
        Check.same("terms 1: none of the text before", "1 3 99", y.setting(9) + " " + y.setting(3) + " " + y.setting(4));
        int[] dueOfBeacon = {8, 0, 2, 2, 999};
        for (int what = 0; what < dueOfBeacon.length; what++) {
            Check.same("terms 1: without, " + what, dueOfBeacon[what], y.beacon(0, what));
        }
        y.run(1);
        Check.same("terms 1: the costs without", 998, y.beacon(0, 4));
    }

    private static void beacons() {
        Check.same("terms 1: no beacon", 0, right("seed 3;").setting(0));
        for (int n = 1; n <= 8; n++) {
            Check.same("terms 1: beacons", n, right(EIGHT.substring(0, 16 * n)).setting(0));
        }
        flaw(EIGHT + "beacon i every 9;", 5, 128);
        flaw(EIGHT + "seed 3;\nbeacon", 5, 136);
        flaw(EIGHT + "near a b;beacon 3;", 5, 137);
        flaw(EIGHT + "beacon a every 9;", 5, 128);
        flaw(EIGHT + "beaconi every 9;", 1, 128);
        for (int b = 0; b < 8; b++) {
            Check.same("terms 1: numbered from 0", (int) "abcdefgh".charAt(b), right(EIGHT).letter(b, 0));
        }
    }

    private static void names() {
        Check.same("terms 1: different names", 8, right("beacon a every 9;beacon aa every 9;beacon aaaaaaaa every 9;"
                + "beacon aaaaaaab every 9;beacon baaaaaaa every 9;beacon aaaaaaa every 9;beacon b every 9;beacon ab every 9;").setting(0));
        flaw("beacon aaaaaaaa every 9;beacon aaaaaaab every 9;beacon aaaaaaab every 9;", 3, 55);
        for (int b = 0; b < 7; b++) {
            flaw(EIGHT.substring(0, 112) + "beacon " + EIGHT.charAt(16 * b + 7) + " every 9;", 3, 119);
        }
        flaw("beacon a every 9;beacon a", 3, 24);
        flaw("beacon a every 9;beacon a beacon", 3, 24);
    }

    private static void periods() {
        range("beacon a every ", ";", 2, 99, 0);
    }

    private static void firstWakes() {
        for (int period : new int[] {2, 3, 10, 50, 98, 99}) {
            range("beacon a every " + period + " at ", ";", 0, period - 1, 1);
        }
    }

    private static void listensAndSends() {
        range("beacon a every 9 listens ", ";", 1, 9, 2);
        range("beacon a every 9 sends ", ";", 1, 9, 3);
    }

    private static void energies() {
        range("beacon a every 9 energy ", ";", 1, 999, 4);
    }

    private static void nears() {
        StringBuilder s = new StringBuilder(EIGHT);
        for (int b = 0; b < 8; b++) {
            for (int a = 0; a < b; a++) {
                s.append("near ").append(EIGHT.charAt(16 * ((a + b) % 2 == 0 ? a : b) + 7)).append(' ');
                s.append(EIGHT.charAt(16 * ((a + b) % 2 == 0 ? b : a) + 7)).append(";");
            }
        }
        RadioBeacons x = right(s.toString());
        Check.same("terms 1: all near each other", 28, x.setting(1));
        for (int b = 0; b < 8; b++) {
            Check.same("terms 1: all but itself", 255 - (1 << b), x.beacon(b, 9));
        }
        for (char a = 'a'; a <= 'h'; a++) {
            for (char b = 'a'; b <= 'h'; b++) {
                flaw(s + "near " + a + " " + b, 3, s.length() + 7);
            }
            flaw(EIGHT + "near " + a + " " + a + ";", 3, 135);
            flaw(EIGHT + "near " + a + " i;", 4, 135);
            flaw(EIGHT + "near i " + a + ";", 4, 133);
        }
        flaw("near a b;beacon a every 9;beacon b every 9;", 4, 5);
        flaw("beacon a every 9;near a b;beacon b every 9;", 4, 24);
    }

    // ---- errors

    /** What becomes of each beginning of a text: 0 it is right, otherwise the code of the error at its end or at a token. */
    private static void endsTooEarly() {
        String text = "costs 1 2 3 4;beacon ab every 9 at 8;beacon x every 8;near x ab;";
        int[] tokens = {0, 6, 8, 10, 12, 13, 14, 21, 24, 30, 32, 35, 36, 37, 44, 46, 52, 53, 54, 59, 61, 63};
        for (int length = 0; length <= text.length(); length++) {
            String cut = text.substring(0, length);
            int last = 0;
            for (int start : tokens) {
                last = start < length ? start : last;
            }
            if (length == 0 || cut.endsWith(";")) {
                right(cut);
                flaw(cut + "beacon", 1, length + 6);
            } else if (cut.endsWith("near x a")) {
                flaw(cut, 4, 61);
            } else if (isCutWord(cut, last)) {
                flaw(cut, 1, last);
            } else {
                flaw(cut, 1, length);
                flaw(cut + " ", 1, length + 1);
                flaw(cut + "\n \n", 1, length + 3);
            }
        }
    }

    /** Whether a text ends within a word of the language. */
    private static boolean isCutWord(String cut, int last) {
        String word = cut.substring(last).trim();
        for (String whole : new String[] {"costs", "beacon", "every", "at", "near"}) {
            if (whole.startsWith(word) && !whole.equals(word)) {
                return !cut.substring(0, last).endsWith("beacon ");
            }
        }
        return false;
    }

    /** An error of each code, behind eight beacons, of which a and b are near each other, and tries. */
    private static final String[] FLAWS = {"foo;", "memory 0;", "tries 4;", "near a i;", "beacon i every 9;"};
    private static final int[] PLACES = {0, 7, 0, 7, 0};

    private static void theFirstErrorIsReported() {
        String ahead = EIGHT + "near a b;tries 5;";
        for (int first = 0; first < 5; first++) {
            flaw(ahead + FLAWS[first], first + 1, ahead.length() + PLACES[first]);
            for (int second = 0; second < 5; second++) {
                flaw(ahead + FLAWS[first] + FLAWS[second], first + 1, ahead.length() + PLACES[first]);
                flaw(ahead + "seed 9;" + FLAWS[first] + "\u0000" + FLAWS[second], first + 1, ahead.length() + 7 + PLACES[first]);
                flaw(ahead + "\u0000" + FLAWS[first], 1, ahead.length());
            }
        }
        flaw("beacon a every 1 at 0 \u0000", 2, 15);
        flaw("beacon a every 9 at 9 energy 0;", 2, 20);
        flaw("beacon a every 9 listens 0 sends 0;", 2, 25);
        flaw("costs 1 100 1000 foo;", 2, 8);
        flaw("costs 1 1000 100 foo;", 1, 8);
    }

    private static void theLowestCode() {
        // an invalid token is never more than that, whatever number or name it would be
        flaw("tries 0000;", 1, 6);
        flaw("memory 0000;", 1, 7);
        flaw("costs 1000 1 1 1;", 1, 6);
        flaw("beacon a every 1000;", 1, 15);
        flaw("beacon a every 0001;", 1, 15);
        flaw("beacon a every 9 energy 0000;", 1, 24);
        flaw("beacon aaaaaaaa every 9;beacon aaaaaaaaa every 9;", 1, 31);
        flaw("beacon aaaaaaaa every 9;near aaaaaaaaa aaaaaaaa;", 1, 29);
        flaw("beacon aaaaaaaa every 9;near aaaaaaaa aaaaaaaaa;", 1, 38);
        flaw("near aaaaaaaaa aaaaaaaaa;", 1, 5);
        // a number or a sign in place of a name is not allowed by the grammar, and nothing else
        flaw("beacon 9 every 9;", 1, 7);
        flaw("beacon a every 9;near a 9;", 1, 24);
        flaw("beacon a every 9;near ; a;", 1, 22);
        // of two names of none the first one is the first error
        flaw("near zz zz;", 4, 5);
    }
}

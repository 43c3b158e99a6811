/** The boundary cases of scripts (Terms 3, promises 5 to 7): a method for each sentence that names one. */
final class EdgeScriptTest {
    private static final String TWO = "beacon a every 9;beacon b every 9;";

    private EdgeScriptTest() {
    }

    public static void main(String[] args) {
        nothing();
        numbersOfRun();
        numbersOfEvery();
        numbersOfAt();
        numbersOfCharge();
        timesOfRepeat();
        repeatsWithinOne();
        repeatsWithinTwo();
        wakesOnlyTheSleeping();
        nearAndFar();
        endsAsAWhole();
        endsAtTheEndOfTime();
        endsWhen40WereDone();
        thirtyCommands();
        thirtyCommandsWithRepeats();
        fullBuffers();
        namesThatNoBeaconHas();
        wordsOfTheLanguage();
        endsTooEarly();
        theFirstErrorIsReported();
        theLowestCode();
        notCounted();
        Check.end();
    }

    private static String times(int n, String s) {
        return s.repeat(n);
    }

    /** Runs a script that has no error, on an object made from a text. */
    private static RadioBeacons done(String text, String script, int due) {
        RadioBeacons x = Check.of(text);
        Check.same("5: " + script, due, Check.script(x, script));
        Check.same("6, 7: " + script, "0 at -1", x.errorCode() + " at " + x.errorPosition());
        return x;
    }

    /** Reads a script that has an error. */
    private static void flaw(String script, int code, int position) {
        RadioBeacons x = Check.of(TWO);
        Check.fill(x, script);
        Check.argument("5: " + script, () -> x.runScript());
        Check.same("6, 7: " + script, code + " at " + position, x.errorCode() + " at " + x.errorPosition());
        Check.same("5: nothing is done", "0 0", x.setting(2) + " " + x.setting(10));
    }

    private static void nothing() {
        for (String s : new String[] {"", " ", "\n", " \n ", " ".repeat(700)}) {
            RadioBeacons x = done(TWO, s, 0);
            Check.same("terms 4: also if no command was done", 1, x.setting(10));
        }
        done("", "", 0);
        done("", "run 1;", 1);
        done(TWO, "repeat 20();", 0);
        done(TWO, "repeat 20(repeat 20(););", 0);
        done(TWO, "repeat 20( \n )\n; run 1;", 1);
    }

    // ---- numbers

    private static void numbersOfRun() {
        for (int n = 0; n <= 999; n++) {
            boolean isAllowed = n >= 1 && n <= 99;
            RadioBeacons x = done(TWO, "run 1;run " + n + ";run 1;", isAllowed ? 3 : 1);
            Check.same("5: run " + n, isAllowed ? n + 2 : 1, x.setting(2));
        }
        flaw("run 1000;", 1, 4);
        flaw("run 0000;", 1, 4);
        done(TWO, "run 001;", 1);
    }

    private static void numbersOfEvery() {
        for (int at : new int[] {0, 1, 2, 50, 97, 98}) {
            String text = "beacon a every 99 at " + at + ";";
            for (int n = 0; n <= 999; n++) {
                boolean isAllowed = n > at && n >= 2 && n <= 99;
                RadioBeacons x = done(text, "charge a 1;every a " + n + ";charge a 1;", isAllowed ? 3 : 1);
                Check.same("5: every " + n + " with first wake " + at, isAllowed ? n : 99, x.beacon(0, 0));
            }
        }
        flaw("every a 1000;", 1, 8);
    }

    private static void numbersOfAt() {
        for (int period : new int[] {2, 3, 50, 98, 99}) {
            String text = "beacon a every " + period + " at 1;";
            for (int n = 0; n <= 999; n++) {
                RadioBeacons x = done(text, "charge a 1;at a " + n + ";charge a 1;", n < period ? 3 : 1);
                Check.same("5: at " + n + " with period " + period, n < period ? n : 1, x.beacon(0, 1));
            }
        }
        flaw("at a 1000;", 1, 5);
    }

    private static void numbersOfCharge() {
        String text = "beacon a every 9 energy 1;";
        for (int n = 0; n <= 999; n++) {
            RadioBeacons x = done(text, "every a 8;charge a " + n + ";every a 7;", n > 0 ? 3 : 1);
            Check.same("5: charge " + n, 1 + n, x.beacon(0, 4));
        }
        flaw("charge a 1000;", 1, 9);
        RadioBeacons x = done(text, "repeat 20(charge a 999;);", 20);
        Check.same("40: to 9999 at most", 9999, x.beacon(0, 4));
    }

    private static void timesOfRepeat() {
        for (int n = 0; n <= 999; n++) {
            String script = "repeat " + n + "(charge a 1;);";
            if (n < 1 || n > 20) {
                flaw(script, 2, 7);
            } else {
                Check.same("5: " + script, 999 + n, done(TWO, script, n).beacon(0, 4));
            }
        }
        flaw("repeat 1000(run 1;);", 1, 7);
        flaw("repeat 0000(run 1;);", 1, 7);
        flaw("repeat (run 1;);", 1, 7);
        flaw("repeat(run 1;);", 1, 6);
        done(TWO, "repeat 001(run 1;);", 1);
    }

    // ---- repeats

    private static void repeatsWithinOne() {
        for (int outer = 1; outer <= 20; outer++) {
            for (int inner = 1; inner <= 20; inner++) {
                int due = Math.min(40, outer * inner);
                RadioBeacons x = done(TWO, "repeat " + outer + "(repeat " + inner + "(charge a 1;););", due);
                Check.same("5: repeat " + outer + " times " + inner, 999 + due, x.beacon(0, 4));
            }
        }
        RadioBeacons x = done(TWO, "repeat 2(charge a 1;repeat 3(charge a 10;);charge a 100;repeat 2(charge b 1;););", 14);
        Check.same("5: commands ahead, between and behind", 999 + 2 * (1 + 30 + 100), x.beacon(0, 4));
        Check.same("5: two within one", 999 + 4, x.beacon(1, 4));
        RadioBeacons y = done(TWO, "repeat 2(repeat 1(charge a 1;);repeat 1(););repeat 1(repeat 2(charge a 10;););charge b 1;", 5);
        Check.same("5: one behind another", 999 + 22, y.beacon(0, 4));
    }

    private static void repeatsWithinTwo() {
        flaw("repeat 1(repeat 1(repeat 1(run 1;););););", 3, 18);
        flaw("repeat 1(repeat 1(run 1;repeat", 3, 24);
        flaw("repeat 1(repeat 1(run 1;);repeat 1(run 1;repeat 0", 3, 41);
        flaw("repeat 1(repeat 1(););repeat 1(repeat 1(repeat 1();););", 3, 40);
        done(TWO, "repeat 1(repeat 1();repeat 1(););repeat 1(repeat 1(););", 0);
    }

    // ---- where a script ends

    private static void wakesOnlyTheSleeping() {
        RadioBeacons x = done(Scenes.PAIR, "wake a;wake a;charge b 1;", 1);
        Check.same("5: not behind it", 999, x.beacon(1, 4));
        String[] states = {"run 1;", "run 3;", "run 4;"};
        for (String run : states) {
            done(Scenes.PAIR, run + "wake a;charge b 1;", 1);
        }
        done(Scenes.PAIR, "run 5;wake a;charge b 1;", 3);
        done("beacon a every 9 energy 1;", "run 1;wake a;run 1;", 1);
        done("beacon a every 9 energy 1;", "run 1;charge a 1;wake a;run 1;", 4);
    }

    private static void nearAndFar() {
        done(TWO, "near a b;near a b;run 1;", 1);
        done(TWO, "near a b;near b a;run 1;", 1);
        done(TWO, "near a b;far b a;near b a;run 1;", 4);
        done(TWO, "far a b;run 1;", 0);
        done(TWO + "near a b;", "near b a;run 1;", 0);
        done(TWO + "near a b;", "far a b;far a b;run 1;", 1);
        for (String word : new String[] {"near", "far"}) {
            flaw(word + " a a;", 3, word.length() + 3);
            flaw(word + " b b;", 3, word.length() + 3);
            flaw(word + " a c;", 4, word.length() + 3);
            flaw(word + " c a;", 4, word.length() + 1);
            flaw(word + " c c;", 4, word.length() + 1);
            flaw(word + " a;", 1, word.length() + 2);
        }
    }

    private static void endsAsAWhole() {
        String[] ends = {"run 0;", "run 100;", "wake b;", "every a 1;", "every a 0;", "every a 100;", "every c 7;", "at a 9;",
            "at c 99;", "charge a 0;", "near a b;", "far a c;"};
        String text = TWO + "beacon c every 9 at 7;near a b;";
        for (String end : ends) {
            Check.same("5: alone, " + end, 0, done(text, "wake b;" + end, 1).setting(2));
            RadioBeacons x = done(text, "wake b;charge c 1;" + end + "charge c 10;", 2);
            Check.same("5: the commands before stay done, " + end, 1000, x.beacon(2, 4));
            RadioBeacons y = done(text, "wake b;repeat 3(charge c 1;" + end + "charge c 10;);charge c 100;", 2);
            Check.same("5: in a repeat, " + end, 1000, y.beacon(2, 4));
            RadioBeacons z = done(text, "wake b;repeat 3(repeat 2(charge c 1;" + end + ");charge c 10;);charge c 100;", 2);
            Check.same("5: in a repeat of a repeat, " + end, 1000, z.beacon(2, 4));
            Check.same("4: it can be undone", "1 0", z.setting(10) + " " + z.undo());
            Check.same("4: as a whole, " + end, "999 0", z.beacon(2, 4) + " " + z.beacon(1, 5));
        }
        // it throws in the second turn alone
        RadioBeacons x = done(text, "repeat 3(charge c 1;far a b;charge c 10;);charge c 100;", 4);
        Check.same("5: in the second turn", 999 + 12, x.beacon(2, 4));
    }

    private static void endsAtTheEndOfTime() {
        RadioBeacons x = Check.of("costs 0 0 0 0;beacon a every 98 at 97;");
        for (int k = 0; k < 25; k++) {
            Check.script(x, "repeat 20(run 99;run 99;);");
        }
        Check.script(x, "repeat 9(run 99;);run 98;");
        Check.same("36: the time", 99989, x.setting(2));
        Check.same("5: the time would be above 99999", 1, Check.script(x, "charge a 1;run 11;charge a 1;"));
        Check.same("5: not above 99999", 3, Check.script(x, "charge a 1;run 10;charge a 1;run 1;charge a 1;"));
        Check.same("5: the time", 99999, x.setting(2));
        Check.same("5: no slot is left", 0, Check.script(x, "run 1;charge a 1;"));
        Check.same("5: the energy", 1002, x.beacon(0, 4));
        Check.fill(x, "seed 1;beacon b every 9;");
        x.readText();
        Check.same("4: the time is 0", 0, x.setting(2));
        Check.same("5: there is time again", 40, Check.script(x, "repeat 20(run 99;run 99;);"));
    }

    private static void endsWhen40WereDone() {
        String forty = "repeat 20(charge a 1;charge a 1;);";
        done(TWO, "repeat 19(charge a 1;charge a 1;);charge a 1;", 39);
        done(TWO, forty, 40);
        Check.same("5: not the 41st", 0, done(TWO, forty + "run 1;", 40).setting(2));
        Check.same("5: not the 41st, behind a repeat", 0, done(TWO, forty + "repeat 1(run 1;);", 40).setting(2));
        Check.same("5: the 40th", 1, done(TWO, "repeat 19(charge a 1;charge a 1;);charge a 1;run 1;run 1;", 40).setting(2));
        done(TWO, "repeat 19(charge a 1;charge a 1;);charge a 1;run 0;run 1;", 39);
        done(TWO, forty + "run 0;", 40);
        done(TWO, forty + "near a b;far a b;", 40);
        done(TWO, "repeat 20(repeat 20(charge a 1;););", 40);
        done(TWO, "repeat 20(repeat 1(charge a 1;);repeat 1(charge a 1;););run 1;", 40);
        String free = "costs 0 0 0 0;" + TWO;
        RadioBeacons x = done(free, "repeat 13(charge a 1;charge b 1;run 1;);charge a 1;charge b 1;", 40);
        Check.same("5: 39 in the repeat, and one", "13 1013 1012", x.setting(2) + " " + x.beacon(0, 4) + " " + x.beacon(1, 4));
        RadioBeacons y = done(free, "repeat 14(charge a 1;charge b 1;run 1;);", 40);
        Check.same("5: one of the last turn", "13 1013 1012", y.setting(2) + " " + y.beacon(0, 4) + " " + y.beacon(1, 4));
        Check.same("4: undone as a whole", 0, y.undo());
        Check.same("4: as before", "0 999", y.setting(2) + " " + y.beacon(0, 4));
    }

    // ---- the commands of the text

    private static void thirtyCommands() {
        done(TWO, times(29, "run 1;"), 29);
        done(TWO, times(30, "run 1;"), 30);
        done(TWO, times(30, "run 1;") + "  \n", 30);
        flaw(times(31, "run 1;"), 5, 180);
        flaw(times(30, "run 1;") + "run", 5, 180);
        flaw(times(30, "run 1;") + " wake zz;", 5, 181);
        for (String word : new String[] {"run", "wake", "every", "at", "charge", "near", "far", "repeat"}) {
            flaw(times(30, "run 1;") + word, 5, 180);
        }
        flaw(times(40, "run 1;"), 5, 180);
        flaw(times(115, "run 1;"), 5, 180);
    }

    private static void thirtyCommandsWithRepeats() {
        done(TWO, times(30, "repeat 1();"), 0);
        flaw(times(30, "repeat 1();") + "run 1;", 5, 330);
        flaw(times(31, "repeat 1();"), 5, 330);
        done(TWO, "repeat 1(" + times(29, "run 1;") + ");", 29);
        flaw("repeat 1(" + times(29, "run 1;") + ");run 1;", 5, 185);
        flaw("repeat 1(" + times(30, "run 1;") + ");", 5, 183);
        done(TWO, "repeat 1(repeat 1(" + times(28, "run 1;") + "););", 28);
        flaw("repeat 1(repeat 1(" + times(29, "run 1;") + "););", 5, 186);
        flaw("repeat 1(repeat 1(" + times(28, "run 1;") + "););run 1;", 5, 190);
        done(TWO, times(15, "repeat 1(run 1;);"), 15);
        flaw(times(15, "repeat 1(run 1;);") + "run 1;", 5, 255);
        done(TWO, times(14, "repeat 1(run 1;);") + "repeat 2(repeat 2(););", 14);
        // the most turns that there can be
        done(TWO, "repeat 20(" + times(28, "repeat 20();") + ");run 1;", 1);
    }

    private static void fullBuffers() {
        RadioBeacons x = done(TWO, "run 1;" + " ".repeat(688) + "run 2;", 2);
        Check.same("terms 1: 700 bytes", 3, x.setting(2));
        flaw("run 1;" + " ".repeat(688) + "run 2", 1, 699);
        flaw("run 1;" + " ".repeat(689) + "run 2", 1, 700);
        flaw(" ".repeat(699) + ")", 1, 699);
        flaw("(".repeat(700), 1, 0);
        flaw("repeat 2(" + " ".repeat(691), 1, 700);
        flaw("repeat 2(" + " ".repeat(690) + ")", 1, 700);
        RadioBeacons y = Check.of(TWO);
        Check.fill(y, times(116, "run 1;"));
        Check.same("terms 1: 696 bytes are 700 and 4 cut off", 700, y.truncate(680) + 20);
        Check.argument("5: 31 commands", () -> y.runScript());
        Check.argument("5: it empties the buffer, also if there is an error", () -> y.truncate(1));
    }

    // ---- errors

    private static void namesThatNoBeaconHas() {
        for (String command : new String[] {"wake", "every", "at", "charge", "near", "far"}) {
            RadioBeacons x = new RadioBeacons();
            Check.fill(x, command + " a 3;");
            Check.argument("5: no beacon at all, " + command, () -> x.runScript());
            Check.same("6, 7: no beacon at all, " + command, "4 at " + (command.length() + 1), x.errorCode() + " at " + x.errorPosition());
            flaw(command + " aa 3;", 4, command.length() + 1);
            flaw(command + " " + command + " 3;", 4, command.length() + 1);
            flaw(command + " aaaaaaaaa 3;", 1, command.length() + 1);
            flaw(command + " 3 3;", 1, command.length() + 1);
            flaw(command + ";", 1, command.length());
        }
        String long8 = "beacon aaaaaaaa every 9;beacon aaaaaaab every 9;";
        RadioBeacons x = done(long8, "wake aaaaaaab;", 1);
        Check.same("5: names of eight letters", "01", x.beacon(0, 5) + "" + x.beacon(1, 5));
    }

    private static void wordsOfTheLanguage() {
        String[] words = {"run", "wake", "every", "at", "charge", "near", "far", "repeat"};
        String[] behind = {" 1;", " a;", " a 9;", " a 1;", " a 1;", " a b;", " a b;", " 1();"};
        for (int k = 0; k < words.length; k++) {
            String word = words[k];
            Check.same("5: " + word, true, Check.script(Check.of(TWO), word + behind[k]) >= 0);
            for (int i = 0; i < word.length(); i++) {
                flaw(word.substring(0, i) + "z" + word.substring(i + 1) + behind[k], 1, 0);
                flaw(word.substring(0, i) + word.substring(i + 1) + behind[k], 1, 0);
                flaw(word.substring(0, i) + "z" + word.substring(i) + behind[k], 1, 0);
            }
            flaw(word + "z" + behind[k], 1, 0);
        }
    }

    private static void endsTooEarly() {
        String script = "run 3;repeat 2(wake a;near a b;);at b 4;";
        int[] tokens = {0, 4, 5, 6, 13, 14, 15, 20, 21, 22, 27, 29, 30, 31, 32, 33, 36, 38, 39};
        for (int length = 0; length <= script.length(); length++) {
            String cut = script.substring(0, length);
            int last = 0;
            for (int start : tokens) {
                last = start < length ? start : last;
            }
            String word = cut.substring(last).trim();
            boolean isCutWord = length > 0 && java.util.List.of("r", "ru", "re", "rep", "repe", "repea", "w", "wa", "wak", "n",
                    "ne", "nea").contains(word) || cut.endsWith(";a");
            if (length == 0 || length == 6 || length == 33 || length == script.length()) {
                Check.same("5: " + cut, true, Check.script(Check.of(TWO), cut) >= 0);
            } else if (isCutWord) {
                flaw(cut, 1, last);
            } else {
                flaw(cut, 1, length);
                flaw(cut + " \n", 1, length + 2);
            }
        }
    }

    private static final String[] FLAWS = {"foo;", "repeat 21(run 1;);", "near a a;", "wake zz;"};
    private static final int[] PLACES = {0, 7, 7, 5};

    private static void theFirstErrorIsReported() {
        for (int first = 0; first < 4; first++) {
            for (int second = 0; second < 4; second++) {
                flaw("run 1;" + FLAWS[first] + FLAWS[second], first + 1, 6 + PLACES[first]);
                flaw("repeat 2(" + FLAWS[first] + ");" + FLAWS[second] + "\u0000", first + 1, 9 + PLACES[first]);
                flaw("run 1;\u0000" + FLAWS[first], 1, 6);
            }
            flaw(times(30, "run 1;") + "run 1;" + FLAWS[first], 5, 180);
            flaw(times(29, "run 1;") + FLAWS[first] + "run 1;", first + 1, 174 + PLACES[first]);
        }
        flaw("run 1;)", 1, 6);
        flaw("repeat 2(run 1;));", 1, 16);
        flaw("repeat 2(run 1;)run 1;", 1, 16);
        flaw("repeat 2(run 1;;);", 1, 15);
        flaw("repeat 2 3(run 1;);", 1, 9);
        flaw("repeat 2(run 1);", 1, 14);
        flaw("()", 1, 0);
        flaw("beacon c every 9;", 1, 0);
    }

    private static void theLowestCode() {
        String two = "repeat 1(repeat 1(";
        // the 31st command is a "repeat" within two others: 3 and 5
        flaw(two + times(28, "run 1;") + "repeat 1();););", 3, 186);
        flaw(two + times(28, "run 1;") + "run 1;););", 5, 186);
        flaw(two + times(27, "run 1;") + "repeat 1();););", 3, 180);
        // no command at all, as the 31st: 1 and not 5
        flaw(times(30, "run 1;") + "runn 1;", 1, 180);
        flaw(times(30, "run 1;") + "aaaaaaaaa", 1, 180);
        flaw(times(30, "run 1;") + "7", 1, 180);
        flaw(times(30, "run 1;") + ";", 1, 180);
        flaw(times(30, "run 1;") + "\u0000", 1, 180);
        flaw(times(30, "run 1;") + "(", 1, 180);
        flaw("repeat 0000();", 1, 7);
    }

    /** A script that was refused is none that can be undone, and one that was done is just one. */
    private static void notCounted() {
        RadioBeacons x = Check.of(TWO);
        Check.script(x, "repeat 20(charge a 1;charge b 1;);");
        Check.same("4: one change", 1, x.setting(10));
        Check.fill(x, "run 1");
        Check.argument("5: an error", () -> x.runScript());
        Check.same("4: one change still", 1, x.setting(10));
        for (int k = 2; k <= 8; k++) {
            Check.script(x, k % 2 == 0 ? "" : "run 0;");
            Check.same("4: at most six", Math.min(6, k), x.setting(10));
        }
    }
}

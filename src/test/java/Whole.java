/** All that can be seen of an object, in one text; also what can be seen only by spending the object. */
final class Whole {
    private Whole() {
    }

    /** What can be seen without a change but for what tells of the buffer, of undo and of what is saved. */
    static String seen(RadioBeacons x) {
        StringBuilder s = new StringBuilder();
        s.append("error ").append(x.errorCode()).append(' ').append(x.errorPosition()).append('\n');
        s.append("report ").append(latestReport(x)).append('\n');
        for (int what = 0; what <= 10; what++) {
            s.append(x.setting(what)).append(' ');
        }
        s.append(x.drain()).append(' ').append(x.knowledge()).append(' ').append(x.groups()).append(' ');
        s.append(x.earliest()).append(' ').append(x.allKnownIn()).append(' ').append(x.collisionsIn(60)).append('\n');
        // of the first three alone, so that an object is not asked more than 512 times
        for (int b = 0; b < Math.min(3, x.setting(0)); b++) {
            one(s, x, b);
        }
        return s.toString();
    }

    private static void one(StringBuilder s, RadioBeacons x, int b) {
        for (int i = 0; i <= 8 && x.letter(b, i) != 0; i++) {
            s.append((char) x.letter(b, i));
        }
        for (int what = 0; what <= 13; what++) {
            s.append(' ').append(x.beacon(b, what));
        }
        for (int state = 0; state <= 3; state++) {
            s.append(' ').append(x.slots(b, state));
        }
        s.append(" / ").append(x.reckoned(b)).append(' ').append(x.why(b)).append(' ').append(x.dueIn(b));
        s.append(' ').append(x.hidden(b)).append(' ').append(x.ears(b)).append(' ').append(x.window(b));
        s.append(' ').append(x.stateIn(b, 7)).append(' ').append(x.energyIn(b, 40)).append(' ').append(x.outIn(b));
        s.append(' ').append(x.sendsIn(b)).append(' ').append(x.wellIn(b));
        int count = Math.min(3, x.setting(0));
        for (int other = 0; other < count; other++) {
            s.append(" / ").append(x.heard(b, other)).append(' ').append(x.knows(b, other)).append(' ');
            s.append(x.whyNot(b, other)).append(' ').append(x.hops(b, other));
        }
        s.append('\n');
    }

    /** The latest report, byte by byte, for as long as there are any. */
    static String latestReport(RadioBeacons x) {
        StringBuilder s = new StringBuilder();
        for (int i = 0; i < 800; i++) {
            try {
                s.append((char) x.reportByte(i));
            } catch (IndexOutOfBoundsException e) {
                break;
            }
        }
        return s.toString();
    }

    /** The time, the tries, the x of the draws and the numbers of the first three beacons that change most. */
    static String brief(RadioBeacons x) {
        StringBuilder s = new StringBuilder();
        s.append(x.setting(2)).append(' ').append(x.setting(3)).append(' ').append(x.setting(9));
        for (int b = 0; b < Math.min(3, x.setting(0)); b++) {
            s.append(" /");
            for (int what : new int[] {0, 1, 4, 5, 6, 7, 8, 9}) {
                s.append(' ').append(x.beacon(b, what));
            }
        }
        return s.append('\n').toString();
    }

    /** All of it: then the buffer is run as a script, all is undone that can be, and what was saved is restored. */
    static String spent(RadioBeacons x) {
        StringBuilder s = new StringBuilder(seen(x));
        try {
            s.append("script ").append(x.runScript()).append(' ').append(brief(x));
        } catch (IllegalArgumentException e) {
            s.append("script ").append(x.errorCode()).append(' ').append(x.errorPosition()).append('\n');
        }
        for (int left = 0; left != RadioBeacons.NONE;) {
            left = x.undo();
            s.append("undo ").append(left).append(' ').append(brief(x));
        }
        try {
            s.append("restore ").append(x.restore()).append(' ').append(brief(x));
        } catch (IllegalStateException e) {
            s.append("nothing saved\n");
        }
        return s.toString();
    }
}

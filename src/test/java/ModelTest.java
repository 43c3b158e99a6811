import java.util.ArrayList;
import java.util.List;
import java.util.Random;

/** Long runs of calls, drawn with fixed seeds, on RadioBeacons and on the plain Model of the document side by side. */
final class ModelTest {
    private static final int RUNS = 600;
    private static final int MOST_CALLS = 512;

    private final Random random;
    private final RadioBeacons x = new RadioBeacons();
    private final Model m = new Model();
    private final StringBuilder log = new StringBuilder();
    private List<String> names = new ArrayList<>();
    private int calls = 0;
    private boolean isRight = true;

    private ModelTest(long seed) {
        random = new Random(seed);
    }

    public static void main(String[] args) {
        int runs = args.length > 0 ? Integer.parseInt(args[0]) : RUNS;
        for (int run = 0; run < runs; run++) {
            ModelTest t = new ModelTest(run);
            t.go();
            Check.same("run " + run + " (" + t.tail() + ")", true, t.isRight);
            if (!t.isRight) {
                break;
            }
        }
        Check.end();
    }

    private static Object answer(Check.Call call) {
        try {
            return call.make();
        } catch (RuntimeException e) {
            return e.getClass().getName();
        }
    }

    private void compare(String what, Check.Call due, Check.Call got) {
        if (!isRight || calls >= MOST_CALLS) {
            return;
        }
        calls++;
        Object a = answer(due);
        Object b = answer(got);
        log.append(what).append(" = ").append(b).append('\n');
        if (!a.equals(b)) {
            isRight = false;
            log.append("due is ").append(a).append('\n');
        }
    }

    private String tail() {
        return isRight ? "" : log.substring(Math.max(0, log.length() - 2000));
    }

    private int n(int bound) {
        return random.nextInt(bound);
    }

    private void go() {
        if (n(10) > 0) {
            read(goodText());
        }
        while (calls < MOST_CALLS && isRight) {
            int kind = n(100);
            if (kind < (names.isEmpty() ? 40 : 3)) {
                read(n(2) == 0 ? goodText() : spoilt(goodText()));
            } else if (kind < 12) {
                script(n(3) > 0 ? goodScript() : spoilt(goodScript()));
            } else if (kind < 55) {
                change();
            } else if (kind < 60) {
                keep();
            } else if (kind < 80) {
                lookAtNow();
            } else {
                lookAhead();
            }
        }
    }

    // ---- texts

    private void feed(String text) {
        byte[] bytes = text.getBytes(java.nio.charset.StandardCharsets.ISO_8859_1);
        log.append("text: ").append(text).append('\n');
        calls += bytes.length / 20 + 2;
        if (calls >= MOST_CALLS || bytes.length > 700) {
            return;
        }
        Check.fill(x, bytes);
        m.text = text;
    }

    private void errors() {
        compare("errorCode", () -> m.code, () -> x.errorCode());
        compare("errorPosition", () -> m.position, () -> x.errorPosition());
    }

    private void read(String text) {
        feed(text);
        compare("readText", () -> m.readText(), () -> x.readText());
        errors();
        takeNames();
    }

    private void script(String text) {
        feed(text);
        compare("runScript", () -> m.runScript(), () -> x.runScript());
        errors();
    }

    private String gap() {
        return List.of(" ", " ", " ", "\n", "  ").get(n(5));
    }

    private String newName() {
        if (n(12) == 0) {
            return List.of("beacon", "every", "near", "at", "costs", "repeat", "run").get(n(7));
        }
        StringBuilder s = new StringBuilder();
        for (int k = 1 + n(n(3) == 0 ? 8 : 2); k > 0; k--) {
            s.append((char) ('a' + n(26)));
        }
        return s.toString();
    }

    private String goodText() {
        names = new ArrayList<>();
        StringBuilder s = new StringBuilder();
        boolean isHungry = n(3) == 0;
        settings(s);
        int count = n(4) == 0 ? n(9) : 2 + n(4);
        for (int k = 0; k < count; k++) {
            String name = newName();
            if (names.contains(name)) {
                continue;
            }
            names.add(name);
            int period = n(3) == 0 ? 2 + n(98) : 2 + n(20);
            s.append("beacon").append(gap()).append(name).append(gap()).append("every ").append(period);
            if (n(2) == 0) {
                s.append(" at ").append(n(period));
            }
            if (n(2) == 0) {
                s.append(" listens ").append(1 + n(n(4) == 0 ? 9 : 3));
            }
            if (n(2) == 0) {
                s.append(" sends").append(1 + n(n(4) == 0 ? 9 : 3));
            }
            if (isHungry || n(4) == 0) {
                s.append(" energy ").append(1 + n(isHungry ? 200 : 999));
            }
            s.append(";");
        }
        int share = 1 + n(4);
        for (int i = 0; i < names.size(); i++) {
            for (int j = 0; j < i; j++) {
                if (n(4) < share && s.length() < 600) {
                    boolean isTurned = n(2) == 0;
                    s.append("near ").append(names.get(isTurned ? j : i)).append(gap());
                    s.append(names.get(isTurned ? i : j)).append(gap()).append(";");
                }
            }
        }
        return s.length() > 690 ? "" : s.toString();
    }

    private void settings(StringBuilder s) {
        if (n(3) == 0) {
            s.append("costs ").append(n(3)).append(" ").append(n(20)).append(" ").append(n(20)).append(" ");
            s.append(n(100)).append(";");
        }
        if (n(2) == 0) {
            s.append("seed ").append(n(1000)).append(";\n");
        }
        if (n(2) == 0) {
            s.append("tries").append(gap()).append(1 + n(9)).append(" ;");
        }
        if (n(2) == 0) {
            s.append("memory ").append(1 + n(n(2) == 0 ? 30 : 999)).append(";");
        }
    }

    private String name() {
        return names.isEmpty() || n(40) == 0 ? newName() : names.get(n(names.size()));
    }

    private String goodScript() {
        StringBuilder s = new StringBuilder();
        commands(s, n(n(6) == 0 ? 32 : 8), 0);
        return s.length() > 690 ? "" : s.toString();
    }

    private void commands(StringBuilder s, int count, int depth) {
        for (int k = 0; k < count; k++) {
            int kind = n(12);
            if (kind < 5) {
                s.append("run ").append(1 + n(20));
            } else if (kind == 5) {
                s.append("wake ").append(name());
            } else if (kind == 6) {
                s.append("every ").append(name()).append(" ").append(2 + n(98));
            } else if (kind == 7) {
                s.append("at ").append(name()).append(" ").append(n(20));
            } else if (kind == 8) {
                s.append("charge ").append(name()).append(" ").append(n(400));
            } else if (kind == 9) {
                s.append("near ").append(name()).append(" ").append(name());
            } else if (kind == 10) {
                s.append("far ").append(name()).append(" ").append(name());
            } else if (depth < 3 && (depth < 2 || n(5) == 0)) {
                s.append("repeat ").append(1 + n(4)).append("(");
                commands(s, n(4), depth + 1);
                s.append(")");
            } else {
                s.append("run 1");
            }
            s.append(gap().substring(0, n(2))).append(";");
        }
    }

    private String spoilt(String good) {
        StringBuilder s = new StringBuilder(good);
        for (int times = 1 + n(2); times > 0 && s.length() > 0; times--) {
            int at = n(s.length());
            switch (n(6)) {
                case 0: s.deleteCharAt(at); break;
                case 1: s.setCharAt(at, (char) n(256)); break;
                case 2: s.insert(at, List.of(";", "(", ")", "a", "0", "9", " ", "near ", "1234").get(n(9))); break;
                case 3: s.setLength(at); break;
                case 4: s.setCharAt(at, List.of('0', '9', 'a', ' ', ';').get(n(5))); break;
                default: s.append(good, 0, Math.min(good.length(), 699 - Math.min(s.length(), 699))); break;
            }
        }
        s.setLength(Math.min(s.length(), 690));
        return s.toString();
    }

    // ---- calls

    private int someBeacon() {
        int count = Math.max(1, names.size());
        return n(30) == 0 ? n(12) - 2 : n(count);
    }

    private void change() {
        int b = someBeacon();
        int o = someBeacon();
        int v = n(20) == 0 ? n(1200) - 100 : 2 + n(30);
        boolean isNear = n(2) == 0;
        switch (n(14)) {
            case 0: compare("wake " + b, () -> m.wake(b), () -> x.wake(b)); break;
            case 1: compare("setEvery " + b + " " + v, () -> m.setEvery(b, v), () -> x.setEvery(b, v)); break;
            case 2: compare("setAt " + b + " " + (v - 2), () -> m.setAt(b, v - 2), () -> x.setAt(b, v - 2)); break;
            case 3: compare("charge " + b + " " + v, () -> m.charge(b, v), () -> x.charge(b, v)); break;
            case 4:
                compare("setNear " + b + " " + o + " " + isNear, () -> m.setNear(b, o, isNear),
                        () -> x.setNear(b, o, isNear));
                break;
            case 5: compare("setTries " + v % 12, () -> m.setTries(v % 12), () -> x.setTries(v % 12)); break;
            default:
                int slots = n(10) == 0 ? n(103) : 1 + n(12);
                compare("run " + slots, () -> m.run(slots), () -> x.run(slots));
                break;
        }
    }

    private void keep() {
        switch (n(5)) {
            case 0: compare("save", () -> m.save(), () -> x.save()); break;
            case 1: compare("restore", () -> m.restore(), () -> x.restore()); takeNames(); break;
            default: compare("undo", () -> m.undo(), () -> x.undo()); break;
        }
    }

    private void takeNames() {
        names = new ArrayList<>();
        for (Model.One o : m.all.ones) {
            names.add(o.name);
        }
    }

    private void lookAtNow() {
        int b = someBeacon();
        int o = someBeacon();
        for (int what = -1; what <= 11; what++) {
            int w = what;
            compare("setting " + w, () -> m.setting(w), () -> x.setting(w));
        }
        for (int what = -1; what <= 14; what++) {
            int w = what;
            compare("beacon " + b + " " + w, () -> m.beacon(b, w), () -> x.beacon(b, w));
        }
        int s = n(6) - 1;
        int i = n(10) - 1;
        compare("slots " + b + " " + s, () -> m.slots(b, s), () -> x.slots(b, s));
        compare("reckoned " + b, () -> m.reckoned(b), () -> x.reckoned(b));
        compare("letter " + b + " " + i, () -> m.letter(b, i), () -> x.letter(b, i));
        compare("heard " + b + " " + o, () -> m.heard(b, o), () -> x.heard(b, o));
        compare("knows " + b + " " + o, () -> m.knows(b, o), () -> x.knows(b, o));
        compare("drain", () -> m.drain(), () -> x.drain());
        compare("knowledge", () -> m.knowledge(), () -> x.knowledge());
        compare("why " + b, () -> m.why(b), () -> x.why(b));
        for (int other = 0; other < names.size(); other++) {
            int t = other;
            compare("whyNot " + b + " " + t, () -> m.whyNot(b, t), () -> x.whyNot(b, t));
        }
        compare("dueIn " + b, () -> m.dueIn(b), () -> x.dueIn(b));
        compare("hidden " + b, () -> m.hidden(b), () -> x.hidden(b));
        compare("hops " + b + " " + o, () -> m.hops(b, o), () -> x.hops(b, o));
        compare("groups", () -> m.groups(), () -> x.groups());
        compare("ears " + b, () -> m.ears(b), () -> x.ears(b));
        compare("earliest", () -> m.earliest(), () -> x.earliest());
        compare("window " + b, () -> m.window(b), () -> x.window(b));
        compareReport();
    }

    private void compareReport() {
        compare("report", () -> m.report(), () -> x.report());
        if (n(3) > 0 || calls + m.written.length() >= MOST_CALLS) {
            return;
        }
        calls += m.written.length();
        StringBuilder s = new StringBuilder();
        for (int k = 0; k < m.written.length(); k++) {
            int i = k;
            s.append(answer(() -> (char) x.reportByte(i)));
        }
        compare("the report", () -> m.written, () -> s.toString());
        int outside = n(2) == 0 ? -1 : m.written.length();
        compare("reportByte " + outside, () -> m.reportByte(outside), () -> x.reportByte(outside));
    }

    private void lookAhead() {
        int b = someBeacon();
        int o = someBeacon();
        int slots = n(8) == 0 ? n(204) - 1 : n(30);
        compare("stateIn " + b + " " + slots, () -> m.stateIn(b, slots), () -> x.stateIn(b, slots));
        compare("energyIn " + b + " " + slots, () -> m.energyIn(b, slots), () -> x.energyIn(b, slots));
        compare("collisionsIn " + slots, () -> m.collisionsIn(slots), () -> x.collisionsIn(slots));
        compare("knowsIn " + b + " " + o, () -> m.knowsIn(b, o), () -> x.knowsIn(b, o));
        compare("allKnownIn", () -> m.allKnownIn(), () -> x.allKnownIn());
        compare("outIn " + b, () -> m.outIn(b), () -> x.outIn(b));
        compare("sendsIn " + b, () -> m.sendsIn(b), () -> x.sendsIn(b));
        compare("wellIn " + b, () -> m.wellIn(b), () -> x.wellIn(b));
        if (n(6) == 0) {
            compare("bestAt " + b, () -> m.bestAt(b), () -> x.bestAt(b));
            compare("bestEvery " + b, () -> m.bestEvery(b), () -> x.bestEvery(b));
        }
    }
}

import java.util.ArrayList;
import java.util.HashMap;
import java.util.List;
import java.util.Map;
import java.util.NoSuchElementException;

/**
 * The document once more, in the plainest form and without any thought of speed or space: what
 * RadioBeacons answers to long runs of calls is held against it.
 */
final class Model {
    private static final int NEVER = -1;

    /** A text that has an error. */
    static final class Flaw extends Exception {
        private static final long serialVersionUID = 1L;
        final int code;
        final int position;

        Flaw(int code, int position) {
            this.code = code;
            this.position = position;
        }
    }

    static final class One implements Cloneable {
        String name = "";
        int period;
        int first;
        int listens = 2;
        int sends = 2;
        int energy = 999;
        String state = "sleeps";
        int left;
        int fails;
        boolean skipped;
        boolean sentBefore;
        int well;
        int up;
        int lost;
        int[] inState = new int[4];
        Map<Integer, Integer> heardAt = new HashMap<>();
        Map<Integer, Integer> reasons = new HashMap<>();
        Map<Integer, Integer> lastReasons = new HashMap<>();

        One copy() {
            try {
                One c = (One) clone();
                c.inState = inState.clone();
                c.heardAt = new HashMap<>(heardAt);
                c.reasons = new HashMap<>(reasons);
                c.lastReasons = new HashMap<>(lastReasons);
                return c;
            } catch (CloneNotSupportedException e) {
                throw new NoSuchElementException();
            }
        }
    }

    static final class All {
        List<One> ones = new ArrayList<>();
        boolean[][] near = new boolean[8][8];
        int[] costs = {1, 5, 3, 9};
        int tries = 3;
        int memory = 99;
        int time;
        int x = 1;
        int well;
        int up;
        int collisions;

        All copy() {
            All c = new All();
            for (One o : ones) {
                c.ones.add(o.copy());
            }
            for (int i = 0; i < 8; i++) {
                c.near[i] = near[i].clone();
            }
            c.costs = costs.clone();
            c.tries = tries;
            c.memory = memory;
            c.time = time;
            c.x = x;
            c.well = well;
            c.up = up;
            c.collisions = collisions;
            return c;
        }

        boolean knows(int i, int j) {
            Integer at = ones.get(i).heardAt.get(j);
            return at != null && time - at <= memory;
        }

        boolean isDue(One o, int at) {
            return at - o.first >= 0 && (at - o.first) % o.period == 0;
        }

        int draw(int n) {
            x = x * 1103515245 + 12345;
            return (x >>> 16) % n;
        }

        int window(One o) {
            int w = 2;
            for (int i = 0; i < o.fails; i++) {
                w = w * 2;
            }
            return w > 32 ? 32 : w;
        }

        boolean hears(One o) {
            return o.state.equals("listens") || o.state.equals("waits");
        }

        int stateNumber(One o) {
            return List.of("sleeps", "listens", "waits", "sends", "out").indexOf(o.state);
        }

        List<Integer> sendersNear(int i) {
            List<Integer> found = new ArrayList<>();
            for (int j = 0; j < ones.size(); j++) {
                if (near[i][j] && ones.get(j).state.equals("sends")) {
                    found.add(j);
                }
            }
            return found;
        }

        void slot() {
            time++;
            for (int i = 0; i < ones.size(); i++) {
                change(i);
            }
            for (One o : ones) {
                pay(o);
            }
            listen();
            for (One o : ones) {
                o.sentBefore = o.state.equals("sends");
            }
            for (int i = 0; i < ones.size(); i++) {
                if (ones.get(i).state.equals("sends")) {
                    send(i);
                }
            }
        }

        void change(int i) {
            One o = ones.get(i);
            if (o.state.equals("sleeps") && isDue(o, time)) {
                boolean any = false;
                boolean all = true;
                for (int j = 0; j < ones.size(); j++) {
                    if (near[i][j]) {
                        any = true;
                        all = all && knows(i, j);
                    }
                }
                if (any && all && !o.skipped) {
                    o.skipped = true;
                } else {
                    o.skipped = false;
                    o.state = "listens";
                    o.left = o.listens;
                }
            } else if (o.state.equals("listens")) {
                o.left--;
                if (o.left == 0) {
                    o.state = "waits";
                    o.left = 1 + draw(window(o));
                }
            } else if (o.state.equals("waits")) {
                boolean busy = false;
                for (int j = 0; j < ones.size(); j++) {
                    busy = busy || near[i][j] && ones.get(j).sentBefore;
                }
                if (!busy) {
                    o.left--;
                    if (o.left == 0) {
                        o.state = "sends";
                        o.left = o.sends;
                        o.reasons.clear();
                    }
                }
            }
        }

        void pay(One o) {
            if (o.state.equals("out")) {
                return;
            }
            int cost = costs[stateNumber(o)];
            o.inState[stateNumber(o)]++;
            if (cost > o.energy) {
                cost = o.energy;
            }
            o.energy -= cost;
            o.lost += cost;
            if (o.energy == 0) {
                o.state = "out";
                o.left = 0;
            }
        }

        void listen() {
            for (int i = 0; i < ones.size(); i++) {
                One o = ones.get(i);
                if (hears(o) && sendersNear(i).size() >= 2) {
                    collisions++;
                }
                for (int s = 0; s < ones.size(); s++) {
                    if (s == i || !ones.get(s).state.equals("sends")) {
                        continue;
                    }
                    if (hears(o) && sendersNear(i).equals(List.of(s))) {
                        continue;
                    }
                    int reason = !near[i][s] ? 1
                            : o.state.equals("sleeps") || o.state.equals("out") ? 2
                            : o.state.equals("sends") ? 3 : 4;
                    ones.get(s).reasons.putIfAbsent(i, reason);
                }
            }
        }

        void send(int i) {
            One o = ones.get(i);
            o.left--;
            if (o.left > 0) {
                return;
            }
            boolean isHeard = false;
            o.lastReasons.clear();
            for (int j = 0; j < ones.size(); j++) {
                if (j != i) {
                    int reason = o.reasons.getOrDefault(j, 0);
                    o.lastReasons.put(j, reason);
                    if (reason == 0) {
                        isHeard = true;
                        ones.get(j).heardAt.put(i, time);
                    }
                }
            }
            if (isHeard) {
                o.well++;
                well++;
                o.fails = 0;
                o.state = "sleeps";
            } else {
                o.fails++;
                if (o.fails >= tries) {
                    o.up++;
                    up++;
                    o.fails = 0;
                    o.state = "sleeps";
                } else {
                    o.state = "waits";
                    o.left = 1 + draw(window(o));
                }
            }
        }
    }

    All all = new All();
    All saved;
    List<All> past = new ArrayList<>();
    String text = "";
    int code;
    int position = NEVER;
    String written = "";

    // ---- tokens

    private String source;
    private List<String> tokens;
    private List<Integer> starts;
    private int at;

    private void tokenize() {
        source = text;
        text = "";
        code = 0;
        position = NEVER;
        tokens = new ArrayList<>();
        starts = new ArrayList<>();
        at = 0;
        int i = 0;
        while (i < source.length()) {
            char c = source.charAt(i);
            int j = i + 1;
            if (String.valueOf(c).matches("[a-z]")) {
                while (j < source.length() && source.substring(j, j + 1).matches("[a-z]")) {
                    j++;
                }
            } else if (String.valueOf(c).matches("[0-9]")) {
                while (j < source.length() && source.substring(j, j + 1).matches("[0-9]")) {
                    j++;
                }
            }
            if (c != ' ' && c != '\n') {
                tokens.add(source.substring(i, j));
                starts.add(i);
            }
            i = j;
        }
    }

    private String peek() {
        return at < tokens.size() ? tokens.get(at) : "";
    }

    private Flaw flaw(int itsCode) {
        return new Flaw(itsCode, at < tokens.size() ? starts.get(at) : source.length());
    }

    private void expect(String token) throws Flaw {
        if (!peek().equals(token)) {
            throw flaw(1);
        }
        at++;
    }

    private int number(int least, int most) throws Flaw {
        if (!peek().matches("[0-9]{1,3}")) {
            throw flaw(1);
        }
        int n = Integer.parseInt(peek());
        if (n < least || n > most) {
            throw flaw(2);
        }
        at++;
        return n;
    }

    private String word() throws Flaw {
        if (!peek().matches("[a-z]{1,8}")) {
            throw flaw(1);
        }
        return peek();
    }

    private static int find(All a, String name) {
        for (int i = 0; i < a.ones.size(); i++) {
            if (a.ones.get(i).name.equals(name)) {
                return i;
            }
        }
        return NEVER;
    }

    private int known(All a) throws Flaw {
        int i = find(a, word());
        if (i == NEVER) {
            throw flaw(4);
        }
        return i;
    }

    // ---- texts

    int readText() {
        tokenize();
        try {
            All a = new All();
            List<String> once = new ArrayList<>();
            while (at < tokens.size()) {
                statement(a, once);
                expect(";");
            }
            all = a;
            past.clear();
            return a.ones.size();
        } catch (Flaw f) {
            code = f.code;
            position = f.position;
            throw new IllegalArgumentException();
        }
    }

    private void statement(All a, List<String> once) throws Flaw {
        String first = peek();
        if (List.of("costs", "seed", "tries", "memory").contains(first)) {
            if (once.contains(first)) {
                throw flaw(3);
            }
            once.add(first);
            at++;
            if (first.equals("costs")) {
                for (int i = 0; i < 4; i++) {
                    a.costs[i] = number(0, 99);
                }
            } else if (first.equals("seed")) {
                a.x = number(0, 999);
            } else if (first.equals("tries")) {
                a.tries = number(1, 9);
            } else {
                a.memory = number(1, 999);
            }
        } else if (first.equals("beacon")) {
            if (a.ones.size() == 8) {
                throw flaw(5);
            }
            at++;
            One o = new One();
            o.name = word();
            if (find(a, o.name) != NEVER) {
                throw flaw(3);
            }
            at++;
            expect("every");
            o.period = number(2, 99);
            if (peek().equals("at")) {
                at++;
                o.first = number(0, o.period - 1);
            }
            if (peek().equals("listens")) {
                at++;
                o.listens = number(1, 9);
            }
            if (peek().equals("sends")) {
                at++;
                o.sends = number(1, 9);
            }
            if (peek().equals("energy")) {
                at++;
                o.energy = number(1, 999);
            }
            a.ones.add(o);
        } else if (first.equals("near")) {
            at++;
            int i = known(a);
            at++;
            int j = known(a);
            if (i == j || a.near[i][j]) {
                throw flaw(3);
            }
            at++;
            a.near[i][j] = true;
            a.near[j][i] = true;
        } else {
            throw flaw(1);
        }
    }

    /** A command of a script; one of "repeat" has others inside. */
    private static final class Command {
        String kind;
        int a;
        int b;
        List<Command> inside = new ArrayList<>();
    }

    /** The script ends here. */
    private static final class Enough extends Exception {
        private static final long serialVersionUID = 1L;
    }

    private int told;
    private int done;

    int runScript() {
        tokenize();
        List<Command> commands = new ArrayList<>();
        try {
            told = 0;
            while (at < tokens.size()) {
                commands.add(command(0));
            }
        } catch (Flaw f) {
            code = f.code;
            position = f.position;
            throw new IllegalArgumentException();
        }
        keep();
        List<All> before = new ArrayList<>(past);
        done = 0;
        try {
            perform(commands);
        } catch (Enough e) {
            // the commands before stay done
        }
        past = before;
        return done;
    }

    private Command command(int depth) throws Flaw {
        Command c = new Command();
        c.kind = peek();
        if (!List.of("run", "wake", "every", "at", "charge", "near", "far", "repeat").contains(c.kind)) {
            throw flaw(1);
        }
        if (c.kind.equals("repeat") && depth == 2) {
            throw flaw(3);
        }
        told++;
        if (told > 30) {
            throw flaw(5);
        }
        at++;
        switch (c.kind) {
            case "run":
                c.a = number(0, 999);
                break;
            case "repeat":
                c.a = number(1, 20);
                expect("(");
                while (!peek().equals(")")) {
                    c.inside.add(command(depth + 1));
                }
                at++;
                break;
            default:
                c.a = known(all);
                at++;
                if (List.of("every", "at", "charge").contains(c.kind)) {
                    c.b = number(0, 999);
                } else if (!c.kind.equals("wake")) {
                    c.b = known(all);
                    if (c.a == c.b) {
                        throw flaw(3);
                    }
                    at++;
                }
                break;
        }
        expect(";");
        return c;
    }

    private void perform(List<Command> commands) throws Enough {
        for (Command c : commands) {
            if (c.kind.equals("repeat")) {
                for (int i = 0; i < c.a; i++) {
                    perform(c.inside);
                }
                continue;
            }
            if (done == 40) {
                throw new Enough();
            }
            try {
                switch (c.kind) {
                    case "run": run(c.a); break;
                    case "wake": wake(c.a); break;
                    case "every": setEvery(c.a, c.b); break;
                    case "at": setAt(c.a, c.b); break;
                    case "charge": charge(c.a, c.b); break;
                    default:
                        if (!setNear(c.a, c.b, c.kind.equals("near"))) {
                            throw new Enough();
                        }
                        break;
                }
            } catch (RuntimeException e) {
                throw new Enough();
            }
            done++;
        }
    }

    // ---- what is there

    One get(int beacon) {
        if (beacon < 0 || beacon >= all.ones.size()) {
            throw new IndexOutOfBoundsException();
        }
        return all.ones.get(beacon);
    }

    int setting(int what) {
        switch (what) {
            case 0: return all.ones.size();
            case 1: return pairs(false) / 2;
            case 2: return all.time;
            case 3: return all.tries;
            case 4: return all.memory;
            case 5: return all.well;
            case 6: return all.up;
            case 7: return all.collisions;
            case 8:
                int out = 0;
                for (One o : all.ones) {
                    out += o.state.equals("out") ? 1 : 0;
                }
                return out;
            case 9: return all.x;
            case 10: return past.size();
            default: throw new IllegalArgumentException();
        }
    }

    private int pairs(boolean onlyKnown) {
        int sum = 0;
        for (int i = 0; i < 8; i++) {
            for (int j = 0; j < 8; j++) {
                if (all.near[i][j] && (!onlyKnown || all.knows(i, j))) {
                    sum++;
                }
            }
        }
        return sum;
    }

    int beacon(int beacon, int what) {
        One o = get(beacon);
        int near = 0;
        int known = 0;
        for (int j = 0; j < all.ones.size(); j++) {
            near += all.near[beacon][j] ? 1 << j : 0;
            known += all.knows(beacon, j) ? 1 << j : 0;
        }
        int[] numbers = {o.period, o.first, o.listens, o.sends, o.energy, all.stateNumber(o), o.left, o.fails,
            o.skipped ? 1 : 0, near, known, o.well, o.up, o.lost};
        if (what < 0 || what >= numbers.length) {
            throw new IllegalArgumentException();
        }
        if (numbers[5] == 0 || numbers[5] == 4) {
            numbers[6] = 0;
        }
        return numbers[what];
    }

    int slots(int beacon, int state) {
        One o = get(beacon);
        if (state < 0 || state > 3) {
            throw new IllegalArgumentException();
        }
        return o.inState[state];
    }

    int reckoned(int beacon) {
        int sum = 0;
        for (int s = 0; s < 4; s++) {
            sum += get(beacon).inState[s] * all.costs[s];
        }
        return sum;
    }

    int letter(int beacon, int i) {
        String name = get(beacon).name;
        return i >= 0 && i < name.length() ? name.charAt(i) : 0;
    }

    int heard(int beacon, int other) {
        get(other);
        return get(beacon).heardAt.getOrDefault(other, NEVER);
    }

    boolean knows(int beacon, int other) {
        get(beacon);
        get(other);
        return all.knows(beacon, other);
    }

    float drain() {
        int sum = 0;
        for (One o : all.ones) {
            sum += o.lost;
        }
        return all.time == 0 ? 0.0f : (float) sum / (float) all.time;
    }

    double knowledge() {
        return pairs(false) == 0 ? 0.0 : (double) pairs(true) / (double) pairs(false);
    }

    // ---- reasons

    int why(int beacon) {
        switch (get(beacon).state) {
            case "sends": return 0;
            case "out": return 1;
            case "sleeps": return 2;
            case "listens": return 3;
            default: return all.sendersNear(beacon).isEmpty() ? 5 : 4;
        }
    }

    int whyNot(int beacon, int other) {
        get(other);
        return get(beacon).lastReasons.getOrDefault(other, 5);
    }

    int dueIn(int beacon) {
        One o = get(beacon);
        int n = 1;
        while (!all.isDue(o, all.time + n)) {
            n++;
        }
        return n;
    }

    int hidden(int beacon) {
        get(beacon);
        int sum = 0;
        for (int i = 0; i < 8; i++) {
            for (int j = i + 1; j < 8; j++) {
                if (all.near[beacon][i] && all.near[beacon][j] && !all.near[i][j]) {
                    sum++;
                }
            }
        }
        return sum;
    }

    int hops(int beacon, int other) {
        get(beacon);
        get(other);
        int[] steps = new int[8];
        java.util.Arrays.fill(steps, 99);
        steps[beacon] = 0;
        for (int round = 0; round < 8; round++) {
            for (int i = 0; i < 8; i++) {
                for (int j = 0; j < 8; j++) {
                    if (all.near[i][j] && steps[i] + 1 < steps[j]) {
                        steps[j] = steps[i] + 1;
                    }
                }
            }
        }
        return steps[other] == 99 ? NEVER : steps[other];
    }

    int groups() {
        int sum = 0;
        for (int i = 0; i < all.ones.size(); i++) {
            boolean isFirst = true;
            for (int j = 0; j < i; j++) {
                isFirst = isFirst && hops(i, j) == NEVER;
            }
            sum += isFirst ? 1 : 0;
        }
        return sum;
    }

    int ears(int beacon) {
        get(beacon);
        All a = all.copy();
        a.ones.get(beacon).state = "sends";
        int set = 0;
        for (int i = 0; i < a.ones.size(); i++) {
            if (a.hears(a.ones.get(i)) && a.sendersNear(i).equals(List.of(beacon))) {
                set += 1 << i;
            }
        }
        return set;
    }

    int earliest() {
        int best = NEVER;
        for (int i = all.ones.size() - 1; i >= 0; i--) {
            if (best == NEVER || dueIn(i) <= dueIn(best)) {
                best = i;
            }
        }
        return best;
    }

    int window(int beacon) {
        return all.window(get(beacon));
    }

    // ---- what comes

    private All after(int slots) {
        All a = all.copy();
        for (int i = 0; i < slots; i++) {
            a.slot();
        }
        return a;
    }

    private static void ahead(int slots) {
        if (slots < 0 || slots > 200) {
            throw new IllegalArgumentException();
        }
    }

    int stateIn(int beacon, int slots) {
        get(beacon);
        ahead(slots);
        All a = after(slots);
        return a.stateNumber(a.ones.get(beacon));
    }

    int energyIn(int beacon, int slots) {
        get(beacon);
        ahead(slots);
        return after(slots).ones.get(beacon).energy;
    }

    int collisionsIn(int slots) {
        ahead(slots);
        return after(slots).collisions - all.collisions;
    }

    int knowsIn(int beacon, int other) {
        get(beacon);
        get(other);
        All a = all.copy();
        for (int n = 0; n <= 300; n++, a.slot()) {
            if (a.knows(beacon, other)) {
                return n;
            }
        }
        return NEVER;
    }

    int allKnownIn() {
        All a = all.copy();
        for (int n = 0; n <= 300; n++, a.slot()) {
            boolean isAll = true;
            for (int i = 0; i < 8; i++) {
                for (int j = 0; j < 8; j++) {
                    isAll = isAll && (!a.near[i][j] || a.knows(i, j));
                }
            }
            if (isAll) {
                return n;
            }
        }
        return NEVER;
    }

    int outIn(int beacon) {
        get(beacon);
        All a = all.copy();
        for (int n = 0; n <= 300; n++, a.slot()) {
            if (a.ones.get(beacon).state.equals("out")) {
                return n;
            }
        }
        return NEVER;
    }

    int sendsIn(int beacon) {
        if (get(beacon).state.equals("sends")) {
            return 0;
        }
        All a = all.copy();
        for (int n = 1; n <= 300; n++) {
            a.slot();
            if (a.ones.get(beacon).sentBefore) {
                return n;
            }
        }
        return NEVER;
    }

    int wellIn(int beacon) {
        int before = get(beacon).well;
        All a = all.copy();
        for (int n = 1; n <= 300; n++) {
            a.slot();
            if (a.ones.get(beacon).well != before) {
                return n;
            }
        }
        return NEVER;
    }

    int bestAt(int beacon) {
        One o = get(beacon);
        int was = o.first;
        int best = NEVER;
        int fewest = Integer.MAX_VALUE;
        for (int f = 0; f < o.period; f++) {
            o.first = f;
            int c = collisionsIn(100);
            if (c < fewest) {
                best = f;
                fewest = c;
            }
        }
        o.first = was;
        return best;
    }

    int bestEvery(int beacon) {
        One o = get(beacon);
        int was = o.period;
        int best = NEVER;
        int most = -1;
        for (int p = Math.max(2, o.first + 1); p <= 99; p++) {
            o.period = p;
            int w = after(100).well;
            if (w >= most) {
                best = p;
                most = w;
            }
        }
        o.period = was;
        return best;
    }

    // ---- changes

    private void keep() {
        past.add(all.copy());
        if (past.size() > 6) {
            past.remove(0);
        }
    }

    int run(int slots) {
        if (slots < 1 || slots > 99) {
            throw new IllegalArgumentException();
        }
        if (all.time + slots > 99999) {
            throw new IllegalStateException();
        }
        keep();
        int before = all.well;
        for (int i = 0; i < slots; i++) {
            all.slot();
        }
        return all.well - before;
    }

    int wake(int beacon) {
        if (!get(beacon).state.equals("sleeps")) {
            throw new IllegalStateException();
        }
        keep();
        One o = get(beacon);
        o.state = "listens";
        o.left = o.listens;
        o.skipped = false;
        return all.time;
    }

    int setEvery(int beacon, int period) {
        if (period <= get(beacon).first || period < 2 || period > 99) {
            throw new IllegalArgumentException();
        }
        keep();
        int before = get(beacon).period;
        get(beacon).period = period;
        return before;
    }

    int setAt(int beacon, int first) {
        if (first > get(beacon).period - 1 || first < 0) {
            throw new IllegalArgumentException();
        }
        keep();
        int before = get(beacon).first;
        get(beacon).first = first;
        return before;
    }

    int charge(int beacon, int by) {
        One o = get(beacon);
        if (by < 1 || by > 999) {
            throw new IllegalArgumentException();
        }
        keep();
        o.energy += by;
        if (o.energy > 9999) {
            o.energy = 9999;
        }
        if (o.state.equals("out")) {
            o.state = "sleeps";
            o.fails = 0;
        }
        return o.energy;
    }

    boolean setNear(int beacon, int other, boolean isNear) {
        get(beacon);
        get(other);
        if (beacon == other) {
            throw new IllegalArgumentException();
        }
        if (all.near[beacon][other] == isNear) {
            return false;
        }
        keep();
        all.near[beacon][other] = isNear;
        all.near[other][beacon] = isNear;
        return true;
    }

    int setTries(int tries) {
        if (tries < 1 || tries > 9) {
            throw new IllegalArgumentException();
        }
        keep();
        int before = all.tries;
        all.tries = tries;
        return before;
    }

    // ---- reports, undo, a saved state

    int report() {
        StringBuilder s = new StringBuilder();
        for (int i = 0; i < all.ones.size(); i++) {
            One o = all.ones.get(i);
            s.append(o.name + " " + o.state + " " + beacon(i, 6) + " " + o.energy);
            for (int j = 0; j < all.ones.size(); j++) {
                if (all.knows(i, j)) {
                    s.append(" +" + all.ones.get(j).name);
                }
            }
            s.append("\n");
        }
        written = s.toString();
        return written.length();
    }

    int reportByte(int i) {
        if (i < 0 || i >= written.length()) {
            throw new IndexOutOfBoundsException();
        }
        return written.charAt(i);
    }

    int undo() {
        if (past.isEmpty()) {
            return NEVER;
        }
        all = past.remove(past.size() - 1);
        return past.size();
    }

    int save() {
        saved = all.copy();
        return all.time;
    }

    int restore() {
        if (saved == null) {
            throw new IllegalStateException();
        }
        all = saved.copy();
        past.clear();
        return all.time;
    }
}

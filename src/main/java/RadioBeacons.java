/**
 * Radio beacons that sleep to save energy: timers that wake them, slots in which they listen, waits
 * by draws, sendings that collide or are heard, windows that grow by each failure, neighbours that
 * are known for a while and sleep longer when all are known, energy by states, reasons why one does
 * not send and why one was not heard, what comes, what timer would be best, with scripts, a report,
 * undo and a saved state.
 */
public final class RadioBeacons {
    public static final int NONE = -1;

    private static final int MOST_BYTES = 700;
    private static final int FED_BYTES = 20;
    private static final int MOST_BEACONS = 8;
    private static final int MOST_LETTERS = 8;
    private static final int MOST_DIGITS = 3;
    private static final int MOST_NUMBER = 999;
    private static final int MOST_COST = 99;
    private static final int LEAST_PERIOD = 2;
    private static final int MOST_PERIOD = 99;
    private static final int MOST_PART = 9;
    private static final int MOST_TRIES = 9;
    private static final int MOST_WINDOW = 32;
    private static final int MOST_ENERGY = 9999;
    private static final int MOST_RUN = 99;
    private static final int MOST_TIME = 99999;
    private static final int MOST_UNDO = 6;
    private static final int ASKED_AHEAD = 200;
    private static final int SEEN_AHEAD = 300;
    private static final int TRIED_AHEAD = 100;

    private static final int ASLEEP = 0;
    private static final int LISTENS = 1;
    private static final int WAITS = 2;
    private static final int SENDS = 3;
    private static final int OUT = 4;
    private static final int STATES_IN_USE = 4;

    private static final int HEARD_IT = 0;
    private static final int NOT_NEAR = 1;
    private static final int NOT_AWAKE = 2;
    private static final int SENT_ITSELF = 3;
    private static final int COLLIDED = 4;
    private static final int NO_SENDING = 5;

    private static final int EVENT_KNOWN = 0;
    private static final int EVENT_ALL_KNOWN = 1;
    private static final int EVENT_OUT = 2;
    private static final int EVENT_SENT = 3;
    private static final int EVENT_WELL = 4;

    private static final int WRONG_TOKEN = 1;
    private static final int WRONG_NUMBER = 2;
    private static final int WRONG_REPETITION = 3;
    private static final int UNKNOWN_NAME = 4;
    private static final int TOO_MANY = 5;

    private final byte[] buffer;
    private int fed;
    private int error;
    private int errorAt;
    private final World now;
    private final World trial;
    private final World kept;
    private boolean hasKept;
    private final World[] past;
    private int undoable;
    private final Page page;
    private final TextReader textReader;
    private final Script script;

    public RadioBeacons() {
        buffer = new byte[MOST_BYTES];
        errorAt = NONE;
        now = new World();
        trial = new World();
        kept = new World();
        past = new World[MOST_UNDO];
        for (int k = 0; k < MOST_UNDO; k++) {
            past[k] = new World();
        }
        page = new Page();
        textReader = new TextReader();
        script = new Script();
    }

    // ---- texts

    public int feed(int a, int b, int c, int d, int e) throws IllegalStateException {
        if (fed + FED_BYTES > MOST_BYTES) {
            throw new IllegalStateException();
        }
        append(a);
        append(b);
        append(c);
        append(d);
        append(e);
        return fed;
    }

    private void append(int four) {
        for (int shift = 24; shift >= 0 && fed < MOST_BYTES; shift -= 8) {
            buffer[fed] = (byte) (four >>> shift);
            fed++;
        }
    }

    public int truncate(int n) throws IllegalArgumentException {
        if (n < 0 || n > fed) {
            throw new IllegalArgumentException();
        }
        fed = n;
        return n;
    }

    public int readText() throws IllegalArgumentException {
        textReader.tokens.begin(buffer, fed);
        boolean isRight = textReader.readAll(trial);
        endReading(textReader.tokens);
        if (!isRight) {
            throw new IllegalArgumentException();
        }
        now.copyFrom(trial);
        undoable = 0;
        return now.count;
    }

    public int runScript() throws IllegalArgumentException {
        script.tokens.begin(buffer, fed);
        boolean isRight = script.readAll(now);
        endReading(script.tokens);
        if (!isRight) {
            throw new IllegalArgumentException();
        }
        keepForUndo();
        return script.runCommands(now);
    }

    private void endReading(Tokens tokens) {
        fed = 0;
        error = tokens.error;
        errorAt = tokens.errorAt;
    }

    public int errorCode() {
        return error;
    }

    public int errorPosition() {
        return errorAt;
    }

    // ---- what is there

    public int setting(int what) throws IllegalArgumentException {
        switch (what) {
            case 0: return now.count;
            case 1: return now.nearPairs() / 2;
            case 2: return now.time;
            case 3: return now.tries;
            case 4: return now.memory;
            case 5: return now.wentWell;
            case 6: return now.gaveUp;
            case 7: return now.collisions;
            case 8: return now.outCount();
            case 9: return now.drawn;
            case 10: return undoable;
            default: throw new IllegalArgumentException();
        }
    }

    public int beacon(int beacon, int what) throws IndexOutOfBoundsException, IllegalArgumentException {
        requireBeacon(beacon);
        Beacon one = now.beacons[beacon];
        switch (what) {
            case 0: return one.period;
            case 1: return one.firstWake;
            case 2: return one.listenSlots;
            case 3: return one.sendSlots;
            case 4: return one.energy;
            case 5: return one.state;
            case 6: return one.left;
            case 7: return one.fails;
            case 8: return one.skipped ? 1 : 0;
            case 9: return one.near;
            case 10: return now.knownTo(one);
            case 11: return one.wentWell;
            case 12: return one.gaveUp;
            case 13: return one.lost;
            default: throw new IllegalArgumentException();
        }
    }

    public int slots(int beacon, int state) throws IndexOutOfBoundsException, IllegalArgumentException {
        requireBeacon(beacon);
        if (state < 0 || state >= STATES_IN_USE) {
            throw new IllegalArgumentException();
        }
        return now.beacons[beacon].slotsIn[state];
    }

    public int reckoned(int beacon) throws IndexOutOfBoundsException {
        requireBeacon(beacon);
        int sum = 0;
        for (int state = 0; state < STATES_IN_USE; state++) {
            sum += now.beacons[beacon].slotsIn[state] * now.costs[state];
        }
        return sum;
    }

    public int letter(int beacon, int i) throws IndexOutOfBoundsException {
        requireBeacon(beacon);
        return letterOf(now.beacons[beacon].name, i);
    }

    public int heard(int beacon, int other) throws IndexOutOfBoundsException {
        requireBeacon(beacon);
        requireBeacon(other);
        return now.beacons[beacon].heardAt[other];
    }

    public boolean knows(int beacon, int other) throws IndexOutOfBoundsException {
        requireBeacon(beacon);
        requireBeacon(other);
        return isIn(now.knownTo(now.beacons[beacon]), other);
    }

    public float drain() {
        if (now.time == 0) {
            return 0.0f;
        }
        int lost = 0;
        for (int k = 0; k < now.count; k++) {
            lost += now.beacons[k].lost;
        }
        return (float) lost / (float) now.time;
    }

    public double knowledge() {
        int pairs = now.nearPairs();
        if (pairs == 0) {
            return 0.0;
        }
        int known = 0;
        for (int k = 0; k < now.count; k++) {
            known += Integer.bitCount(now.beacons[k].near & now.knownTo(now.beacons[k]));
        }
        return (double) known / (double) pairs;
    }

    // ---- reasons

    public int why(int beacon) throws IndexOutOfBoundsException {
        requireBeacon(beacon);
        Beacon one = now.beacons[beacon];
        switch (one.state) {
            case SENDS: return 0;
            case OUT: return 1;
            case ASLEEP: return 2;
            case LISTENS: return 3;
            default: return (one.near & now.inState(SENDS)) != 0 ? 4 : 5;
        }
    }

    public int whyNot(int beacon, int other) throws IndexOutOfBoundsException {
        requireBeacon(beacon);
        requireBeacon(other);
        return beacon == other ? NO_SENDING : now.beacons[beacon].latest[other];
    }

    public int dueIn(int beacon) throws IndexOutOfBoundsException {
        requireBeacon(beacon);
        return now.beacons[beacon].slotsUntilDue(now.time);
    }

    public int hidden(int beacon) throws IndexOutOfBoundsException {
        requireBeacon(beacon);
        int near = now.beacons[beacon].near;
        int pairs = 0;
        for (int k = 0; k < now.count; k++) {
            if (isIn(near, k)) {
                int others = near & ~(1 << k);
                pairs += Integer.bitCount(others & ~now.beacons[k].near);
            }
        }
        // each pair was met from both its ends
        return pairs / 2;
    }

    public int hops(int beacon, int other) throws IndexOutOfBoundsException {
        requireBeacon(beacon);
        requireBeacon(other);
        int reached = 1 << beacon;
        for (int steps = 0; steps < MOST_BEACONS; steps++) {
            if (isIn(reached, other)) {
                return steps;
            }
            reached = now.withNear(reached);
        }
        return NONE;
    }

    public int groups() {
        int groups = 0;
        int grouped = 0;
        for (int k = 0; k < now.count; k++) {
            if (!isIn(grouped, k)) {
                groups++;
                grouped = now.withAllReached(grouped | 1 << k);
            }
        }
        return groups;
    }

    public int ears(int beacon) throws IndexOutOfBoundsException {
        requireBeacon(beacon);
        int otherSenders = now.inState(SENDS) & ~(1 << beacon);
        int ears = 0;
        for (int k = 0; k < now.count; k++) {
            Beacon ear = now.beacons[k];
            if (ear.hasOpenEars() && isIn(ear.near, beacon) && (ear.near & otherSenders) == 0) {
                ears |= 1 << k;
            }
        }
        return ears;
    }

    public int earliest() {
        int first = NONE;
        int fewest = MOST_PERIOD + 1;
        for (int k = 0; k < now.count; k++) {
            int slots = now.beacons[k].slotsUntilDue(now.time);
            if (slots < fewest) {
                first = k;
                fewest = slots;
            }
        }
        return first;
    }

    public int window(int beacon) throws IndexOutOfBoundsException {
        requireBeacon(beacon);
        return now.beacons[beacon].windowSize();
    }

    // ---- what comes

    public int stateIn(int beacon, int slots) throws IndexOutOfBoundsException, IllegalArgumentException {
        requireBeacon(beacon);
        requireAhead(slots);
        tryAhead(slots);
        return trial.beacons[beacon].state;
    }

    public int energyIn(int beacon, int slots) throws IndexOutOfBoundsException, IllegalArgumentException {
        requireBeacon(beacon);
        requireAhead(slots);
        tryAhead(slots);
        return trial.beacons[beacon].energy;
    }

    public int collisionsIn(int slots) throws IllegalArgumentException {
        requireAhead(slots);
        tryAhead(slots);
        return trial.collisions - now.collisions;
    }

    public int knowsIn(int beacon, int other) throws IndexOutOfBoundsException {
        requireBeacon(beacon);
        requireBeacon(other);
        return slotsUntil(EVENT_KNOWN, 0, beacon, other);
    }

    public int allKnownIn() {
        return slotsUntil(EVENT_ALL_KNOWN, 0, 0, 0);
    }

    public int outIn(int beacon) throws IndexOutOfBoundsException {
        requireBeacon(beacon);
        return slotsUntil(EVENT_OUT, 0, beacon, 0);
    }

    public int sendsIn(int beacon) throws IndexOutOfBoundsException {
        requireBeacon(beacon);
        return now.beacons[beacon].state == SENDS ? 0 : slotsUntil(EVENT_SENT, 1, beacon, 0);
    }

    public int wellIn(int beacon) throws IndexOutOfBoundsException {
        requireBeacon(beacon);
        return slotsUntil(EVENT_WELL, 1, beacon, now.beacons[beacon].wentWell);
    }

    public int bestAt(int beacon) throws IndexOutOfBoundsException {
        requireBeacon(beacon);
        int period = now.beacons[beacon].period;
        int best = NONE;
        int fewest = 0;
        for (int at = 0; at < period; at++) {
            trial.copyFrom(now);
            trial.beacons[beacon].firstWake = at;
            trial.pass(TRIED_AHEAD);
            if (best == NONE || trial.collisions < fewest) {
                best = at;
                fewest = trial.collisions;
            }
        }
        return best;
    }

    public int bestEvery(int beacon) throws IndexOutOfBoundsException {
        requireBeacon(beacon);
        int least = Math.max(LEAST_PERIOD, now.beacons[beacon].firstWake + 1);
        int best = NONE;
        int most = 0;
        for (int period = MOST_PERIOD; period >= least; period--) {
            trial.copyFrom(now);
            trial.beacons[beacon].period = period;
            trial.pass(TRIED_AHEAD);
            if (best == NONE || trial.wentWell > most) {
                best = period;
                most = trial.wentWell;
            }
        }
        return best;
    }

    private void tryAhead(int slots) {
        trial.copyFrom(now);
        trial.pass(slots);
    }

    /** In how many slots, from the given number on, an event comes; NONE if it is too far ahead. */
    private int slotsUntil(int event, int from, int beacon, int detail) {
        tryAhead(from);
        for (int slots = from; slots <= SEEN_AHEAD; slots++) {
            if (hasCome(event, beacon, detail)) {
                return slots;
            }
            trial.pass(1);
        }
        return NONE;
    }

    private boolean hasCome(int event, int beacon, int detail) {
        Beacon one = trial.beacons[beacon];
        switch (event) {
            case EVENT_KNOWN: return isIn(trial.knownTo(one), detail);
            case EVENT_ALL_KNOWN: return trial.isAllKnown();
            case EVENT_OUT: return one.state == OUT;
            case EVENT_SENT: return isIn(trial.senders, beacon);
            default: return one.wentWell > detail;
        }
    }

    // ---- changes

    public int run(int slots) throws IllegalArgumentException, IllegalStateException {
        if (slots < 1 || slots > MOST_RUN) {
            throw new IllegalArgumentException();
        }
        if (!now.mayPass(slots)) {
            throw new IllegalStateException();
        }
        keepForUndo();
        int before = now.wentWell;
        now.pass(slots);
        return now.wentWell - before;
    }

    public int wake(int beacon) throws IndexOutOfBoundsException, IllegalStateException {
        requireBeacon(beacon);
        if (now.beacons[beacon].state != ASLEEP) {
            throw new IllegalStateException();
        }
        keepForUndo();
        now.beacons[beacon].startListening();
        return now.time;
    }

    public int setEvery(int beacon, int period) throws IndexOutOfBoundsException, IllegalArgumentException {
        requireBeacon(beacon);
        Beacon one = now.beacons[beacon];
        if (!one.allowsPeriod(period)) {
            throw new IllegalArgumentException();
        }
        keepForUndo();
        int before = one.period;
        one.period = period;
        return before;
    }

    public int setAt(int beacon, int at) throws IndexOutOfBoundsException, IllegalArgumentException {
        requireBeacon(beacon);
        Beacon one = now.beacons[beacon];
        if (!one.allowsFirstWake(at)) {
            throw new IllegalArgumentException();
        }
        keepForUndo();
        int before = one.firstWake;
        one.firstWake = at;
        return before;
    }

    public int charge(int beacon, int by) throws IndexOutOfBoundsException, IllegalArgumentException {
        requireBeacon(beacon);
        if (!isCharge(by)) {
            throw new IllegalArgumentException();
        }
        keepForUndo();
        now.beacons[beacon].takeEnergy(by);
        return now.beacons[beacon].energy;
    }

    public boolean setNear(int beacon, int other, boolean isNear)
            throws IndexOutOfBoundsException, IllegalArgumentException {
        requireBeacon(beacon);
        requireBeacon(other);
        if (beacon == other) {
            throw new IllegalArgumentException();
        }
        if (isIn(now.beacons[beacon].near, other) == isNear) {
            return false;
        }
        keepForUndo();
        now.switchNear(beacon, other);
        return true;
    }

    public int setTries(int tries) throws IllegalArgumentException {
        if (tries < 1 || tries > MOST_TRIES) {
            throw new IllegalArgumentException();
        }
        keepForUndo();
        int before = now.tries;
        now.tries = tries;
        return before;
    }

    // ---- reports, undo, a saved state

    public int report() {
        page.clear();
        for (int k = 0; k < now.count; k++) {
            page.writeLine(now, now.beacons[k]);
        }
        return page.length;
    }

    public int reportByte(int i) throws IndexOutOfBoundsException {
        if (i < 0 || i >= page.length) {
            throw new IndexOutOfBoundsException();
        }
        return page.bytes[i];
    }

    public int undo() {
        if (undoable < 1) {
            return NONE;
        }
        undoable--;
        now.copyFrom(past[undoable]);
        return undoable;
    }

    public int save() {
        kept.copyFrom(now);
        hasKept = true;
        return now.time;
    }

    public int restore() throws IllegalStateException {
        if (!hasKept) {
            throw new IllegalStateException();
        }
        now.copyFrom(kept);
        undoable = 0;
        return now.time;
    }

    /** Keeps what is there now, in place of the oldest one kept if there are as many as may be. */
    private void keepForUndo() {
        if (undoable >= MOST_UNDO) {
            World oldest = past[0];
            for (int k = 1; k < MOST_UNDO; k++) {
                past[k - 1] = past[k];
            }
            past[MOST_UNDO - 1] = oldest;
            undoable = MOST_UNDO - 1;
        }
        past[undoable].copyFrom(now);
        undoable++;
    }

    private void requireBeacon(int beacon) throws IndexOutOfBoundsException {
        if (beacon < 0 || beacon >= now.count) {
            throw new IndexOutOfBoundsException();
        }
    }

    private static void requireAhead(int slots) throws IllegalArgumentException {
        if (slots < 0 || slots > ASKED_AHEAD) {
            throw new IllegalArgumentException();
        }
    }

    private static boolean isCharge(int by) {
        return by >= 1 && by <= MOST_NUMBER;
    }

    private static boolean isIn(int set, int beacon) {
        return (set >> beacon & 1) != 0;
    }

    /** Letter i of a name, which holds a letter in each byte, the first one in the lowest; 0 if there is none. */
    private static int letterOf(long name, int i) {
        return i < 0 || i >= MOST_LETTERS ? 0 : (int) (name >>> 8 * i) & 255;
    }

    /** One beacon: what was told of it, and what became of it. */
    private static final class Beacon {
        private long name;
        private int period;
        private int firstWake;
        private int listenSlots;
        private int sendSlots;
        private int energy;
        private int state;
        private int left;
        private int fails;
        private boolean skipped;
        private int near;
        private int wentWell;
        private int gaveUp;
        private int lost;
        private final int[] slotsIn;
        private final int[] heardAt;
        /** For each other one, the first reason why it did not hear the sending that goes on. */
        private final int[] soFar;
        /** The same of the latest sending that ended. */
        private final int[] latest;

        private Beacon() {
            slotsIn = new int[STATES_IN_USE];
            heardAt = new int[MOST_BEACONS];
            soFar = new int[MOST_BEACONS];
            latest = new int[MOST_BEACONS];
        }

        /** Makes it a new one, of which the text has told but the name. */
        private void begin(long itsName) {
            name = itsName;
            period = LEAST_PERIOD;
            firstWake = 0;
            listenSlots = 0;
            sendSlots = 0;
            energy = 0;
            skipped = false;
            near = 0;
            wentWell = 0;
            gaveUp = 0;
            lost = 0;
            fallAsleep();
            for (int k = 0; k < STATES_IN_USE; k++) {
                slotsIn[k] = 0;
            }
            for (int k = 0; k < MOST_BEACONS; k++) {
                heardAt[k] = NONE;
                soFar[k] = HEARD_IT;
                latest[k] = NO_SENDING;
            }
        }

        private void copyFrom(Beacon other) {
            name = other.name;
            period = other.period;
            firstWake = other.firstWake;
            listenSlots = other.listenSlots;
            sendSlots = other.sendSlots;
            energy = other.energy;
            state = other.state;
            left = other.left;
            fails = other.fails;
            skipped = other.skipped;
            near = other.near;
            wentWell = other.wentWell;
            gaveUp = other.gaveUp;
            lost = other.lost;
            for (int k = 0; k < STATES_IN_USE; k++) {
                slotsIn[k] = other.slotsIn[k];
            }
            for (int k = 0; k < MOST_BEACONS; k++) {
                heardAt[k] = other.heardAt[k];
                soFar[k] = other.soFar[k];
                latest[k] = other.latest[k];
            }
        }

        private boolean allowsPeriod(int wanted) {
            return wanted >= LEAST_PERIOD && wanted <= MOST_PERIOD && wanted > firstWake;
        }

        private boolean allowsFirstWake(int wanted) {
            return wanted >= 0 && wanted < period;
        }

        private boolean isDueAt(int time) {
            int since = time - firstWake;
            return since >= 0 && period > 0 && since % period == 0;
        }

        private int slotsUntilDue(int time) {
            int slots = 1;
            while (slots < MOST_PERIOD && !isDueAt(time + slots)) {
                slots++;
            }
            return slots;
        }

        private int windowSize() {
            return Math.min(MOST_WINDOW, 2 << fails);
        }

        private boolean hasOpenEars() {
            return state == LISTENS || state == WAITS;
        }

        private void fallAsleep() {
            state = ASLEEP;
            left = 0;
            fails = 0;
        }

        private void startListening() {
            state = LISTENS;
            left = listenSlots;
            skipped = false;
        }

        private void startSending() {
            state = SENDS;
            left = sendSlots;
            for (int k = 0; k < MOST_BEACONS; k++) {
                soFar[k] = HEARD_IT;
            }
        }

        private void payForSlot(int cost) {
            int paid = Math.min(cost, energy);
            energy -= paid;
            lost += paid;
            if (energy == 0) {
                state = OUT;
                left = 0;
            }
        }

        private void takeEnergy(int by) {
            energy = Math.min(MOST_ENERGY, energy + by);
            if (state == OUT) {
                fallAsleep();
            }
        }
    }

    /** All that undo() and restore() bring back: the settings, the beacons, the time and the counts. */
    private static final class World {
        private final Beacon[] beacons;
        private final int[] costs;
        private int count;
        private int tries;
        private int memory;
        private int time;
        private int drawn;
        private int wentWell;
        private int gaveUp;
        private int collisions;
        /** Those that had the state SENDS at d of the latest slot. */
        private int senders;

        private World() {
            costs = new int[STATES_IN_USE];
            beacons = new Beacon[MOST_BEACONS];
            for (int k = 0; k < MOST_BEACONS; k++) {
                beacons[k] = new Beacon();
            }
            clear();
        }

        /** Makes it what an empty text tells. */
        private void clear() {
            count = 0;
            costs[ASLEEP] = 1;
            costs[LISTENS] = 5;
            costs[WAITS] = 3;
            costs[SENDS] = 9;
            drawn = 1;
            tries = 3;
            memory = 99;
            time = 0;
            wentWell = 0;
            gaveUp = 0;
            collisions = 0;
            senders = 0;
        }

        private void copyFrom(World other) {
            count = other.count;
            tries = other.tries;
            memory = other.memory;
            time = other.time;
            drawn = other.drawn;
            wentWell = other.wentWell;
            gaveUp = other.gaveUp;
            collisions = other.collisions;
            senders = other.senders;
            for (int k = 0; k < STATES_IN_USE; k++) {
                costs[k] = other.costs[k];
            }
            for (int k = 0; k < count; k++) {
                beacons[k].copyFrom(other.beacons[k]);
            }
        }

        private int find(long name) {
            for (int k = 0; k < count; k++) {
                if (beacons[k].name == name) {
                    return k;
                }
            }
            return NONE;
        }

        /** How many pairs are near each other, each counted both ways. */
        private int nearPairs() {
            int pairs = 0;
            for (int k = 0; k < count; k++) {
                pairs += Integer.bitCount(beacons[k].near);
            }
            return pairs;
        }

        private int inState(int state) {
            int set = 0;
            for (int k = 0; k < count; k++) {
                if (beacons[k].state == state) {
                    set |= 1 << k;
                }
            }
            return set;
        }

        private int outCount() {
            return Integer.bitCount(inState(OUT));
        }

        private int knownTo(Beacon one) {
            int known = 0;
            for (int k = 0; k < count; k++) {
                int at = one.heardAt[k];
                if (at != NONE && time - at <= memory) {
                    known |= 1 << k;
                }
            }
            return known;
        }

        private boolean isAllKnown() {
            for (int k = 0; k < count; k++) {
                if ((beacons[k].near & ~knownTo(beacons[k])) != 0) {
                    return false;
                }
            }
            return true;
        }

        /** A set of beacons and all that are near one of them. */
        private int withNear(int set) {
            int all = set;
            for (int k = 0; k < count; k++) {
                if (isIn(set, k)) {
                    all |= beacons[k].near;
                }
            }
            return all;
        }

        private int withAllReached(int set) {
            int all = set;
            for (int steps = 1; steps < MOST_BEACONS; steps++) {
                all = withNear(all);
            }
            return all;
        }

        private void switchNear(int beacon, int other) {
            beacons[beacon].near ^= 1 << other;
            beacons[other].near ^= 1 << beacon;
        }

        private boolean mayPass(int slots) {
            return slots >= 1 && slots <= MOST_RUN && time + slots <= MOST_TIME;
        }

        private void pass(int slots) {
            for (int k = 0; k < slots; k++) {
                time++;
                changeStates();
                payForStates();
                listenToSenders();
                endSendings();
            }
        }

        private void changeStates() {
            for (int k = 0; k < count; k++) {
                Beacon one = beacons[k];
                switch (one.state) {
                    case ASLEEP:
                        if (one.isDueAt(time)) {
                            wakeOrSkip(one);
                        }
                        break;
                    case LISTENS:
                        one.left--;
                        if (one.left == 0) {
                            waitByDraw(one);
                        }
                        break;
                    case WAITS:
                        if ((one.near & senders) == 0) {
                            waitOn(one);
                        }
                        break;
                    default:
                        break;
                }
            }
        }

        private void wakeOrSkip(Beacon one) {
            if (!one.skipped && one.near != 0 && (one.near & ~knownTo(one)) == 0) {
                one.skipped = true;
            } else {
                one.startListening();
            }
        }

        private void waitOn(Beacon one) {
            one.left--;
            if (one.left == 0) {
                one.startSending();
            }
        }

        private void waitByDraw(Beacon one) {
            int window = one.windowSize();
            drawn = drawn * 1103515245 + 12345;
            one.state = WAITS;
            one.left = window < 1 ? 1 : 1 + (drawn >>> 16) % window;
        }

        private void payForStates() {
            for (int k = 0; k < count; k++) {
                Beacon one = beacons[k];
                if (one.state != OUT) {
                    one.slotsIn[one.state]++;
                    one.payForSlot(costs[one.state]);
                }
            }
        }

        private void listenToSenders() {
            senders = inState(SENDS);
            if (senders == 0) {
                return;
            }
            for (int k = 0; k < count; k++) {
                Beacon ear = beacons[k];
                boolean isCollision = Integer.bitCount(ear.near & senders) > 1;
                if (isCollision && ear.hasOpenEars()) {
                    collisions++;
                }
                for (int s = 0; s < count; s++) {
                    if (isIn(senders, s) && beacons[s].soFar[k] == HEARD_IT) {
                        beacons[s].soFar[k] = reasonAgainst(ear, s, isCollision);
                    }
                }
            }
        }

        private int reasonAgainst(Beacon ear, int sender, boolean isCollision) {
            if (!isIn(ear.near, sender)) {
                return NOT_NEAR;
            }
            if (ear.state == SENDS) {
                return SENT_ITSELF;
            }
            if (!ear.hasOpenEars()) {
                return NOT_AWAKE;
            }
            return isCollision ? COLLIDED : HEARD_IT;
        }

        private void endSendings() {
            for (int k = 0; k < count; k++) {
                Beacon one = beacons[k];
                if (one.state == SENDS) {
                    one.left--;
                    if (one.left == 0 && !endSending(one, k)) {
                        waitByDraw(one);
                    }
                }
            }
        }

        /** Ends the sending of a beacon; answers whether it sleeps then, so that it need not try again. */
        private boolean endSending(Beacon one, int number) {
            if (tellEars(one, number)) {
                one.wentWell++;
                wentWell++;
                one.fallAsleep();
                return true;
            }
            one.fails++;
            if (one.fails >= tries) {
                one.gaveUp++;
                gaveUp++;
                one.fallAsleep();
                return true;
            }
            return false;
        }

        private boolean tellEars(Beacon one, int number) {
            boolean isHeard = false;
            for (int k = 0; k < count; k++) {
                one.latest[k] = one.soFar[k];
                if (one.soFar[k] == HEARD_IT) {
                    beacons[k].heardAt[number] = time;
                    isHeard = true;
                }
            }
            return isHeard;
        }
    }

    /** The tokens of the buffer one by one, and the first error met in them. */
    private static final class Tokens {
        // a sign's kind is the sign itself
        private static final int END = 0;
        private static final int WORD = 1;
        private static final int NUMBER = 2;
        private static final int INVALID = 3;

        private final int[] kinds;
        private final int[] starts;
        private final long[] values;
        private int count;
        private int next;
        private int kind;
        private int start;
        private long value;
        private int error;
        private int errorAt;

        private Tokens() {
            // a byte may be a token, and the end is one too
            kinds = new int[MOST_BYTES + 1];
            starts = new int[MOST_BYTES + 1];
            values = new long[MOST_BYTES + 1];
            errorAt = NONE;
        }

        /** Splits the first bytes of a buffer into tokens and stands at the first one. */
        private void begin(byte[] bytes, int wanted) {
            int length = Math.min(wanted, bytes.length);
            count = 0;
            next = 0;
            error = 0;
            errorAt = NONE;
            int at = 0;
            // each turn takes a byte at least
            for (int turns = 0; turns < MOST_BYTES && at < length; turns++) {
                if (isLetter(bytes[at])) {
                    at = addWord(bytes, at, length);
                } else if (isDigit(bytes[at])) {
                    at = addNumber(bytes, at, length);
                } else {
                    addSign(bytes[at], at);
                    at++;
                }
            }
            add(END, length, 0);
            advance();
        }

        private int addWord(byte[] bytes, int from, int length) {
            long word = 0;
            int at = from;
            while (at < length && isLetter(bytes[at])) {
                if (at - from < MOST_LETTERS) {
                    word |= (long) bytes[at] << 8 * (at - from);
                }
                at++;
            }
            add(at - from > MOST_LETTERS ? INVALID : WORD, from, word);
            return at;
        }

        private int addNumber(byte[] bytes, int from, int length) {
            int number = 0;
            int at = from;
            while (at < length && isDigit(bytes[at])) {
                if (at - from < MOST_DIGITS) {
                    number = number * 10 + bytes[at] - '0';
                }
                at++;
            }
            add(at - from > MOST_DIGITS ? INVALID : NUMBER, from, number);
            return at;
        }

        private void addSign(int sign, int at) {
            if (sign == ';' || sign == '(' || sign == ')') {
                add(sign, at, 0);
            } else if (sign != ' ' && sign != '\n') {
                add(INVALID, at, 0);
            }
        }

        private void add(int itsKind, int itsStart, long itsValue) {
            if (count <= MOST_BYTES) {
                kinds[count] = itsKind;
                starts[count] = itsStart;
                values[count] = itsValue;
                count++;
            }
        }

        private static boolean isLetter(int sign) {
            return sign >= 'a' && sign <= 'z';
        }

        private static boolean isDigit(int sign) {
            return sign >= '0' && sign <= '9';
        }

        /** Goes to the next token; at the end it stays. */
        private void advance() {
            if (next < count) {
                kind = kinds[next];
                start = starts[next];
                value = values[next];
                next++;
            }
        }

        private boolean isWord(String wanted) {
            if (kind != WORD || letterOf(value, wanted.length()) != 0) {
                return false;
            }
            for (int k = 0; k < wanted.length(); k++) {
                if (letterOf(value, k) != wanted.charAt(k)) {
                    return false;
                }
            }
            return true;
        }

        /** Notes an error at the present token; always false. */
        private boolean fail(int code) {
            error = code;
            errorAt = start;
            return false;
        }

        private boolean takeWord(String wanted) {
            if (!isWord(wanted)) {
                return fail(WRONG_TOKEN);
            }
            advance();
            return true;
        }

        private boolean takeSign(char wanted) {
            if (kind != wanted) {
                return fail(WRONG_TOKEN);
            }
            advance();
            return true;
        }

        /** The number that stands here; NONE if there is an error. */
        private int takeNumber(int least, int most) {
            if (kind != NUMBER) {
                fail(WRONG_TOKEN);
                return NONE;
            }
            if (value < least || value > most) {
                fail(WRONG_NUMBER);
                return NONE;
            }
            int taken = (int) value;
            advance();
            return taken;
        }

        /** The number of the beacon whose name stands here, which is not taken; NONE if there is an error. */
        private int beaconHere(World world) {
            if (kind != WORD) {
                fail(WRONG_TOKEN);
                return NONE;
            }
            int found = world.find(value);
            if (found == NONE) {
                fail(UNKNOWN_NAME);
            }
            return found;
        }
    }

    /** Reads a text into a world. */
    private static final class TextReader {
        private static final int COSTS = 1;
        private static final int SEED = 2;
        private static final int TRIES = 4;
        private static final int MEMORY = 8;

        private final Tokens tokens;
        private int told;

        private TextReader() {
            tokens = new Tokens();
        }

        /** Answers whether the text is right. */
        private boolean readAll(World world) {
            world.clear();
            told = 0;
            for (int k = 0; k < MOST_BYTES && tokens.kind != Tokens.END; k++) {
                if (!readStatement(world) || !tokens.takeSign(';')) {
                    return false;
                }
            }
            return true;
        }

        private boolean readStatement(World world) {
            if (tokens.isWord("costs")) {
                return tellOnce(COSTS) && readCosts(world);
            }
            if (tokens.isWord("seed")) {
                return tellOnce(SEED) && readSeed(world);
            }
            if (tokens.isWord("tries")) {
                return tellOnce(TRIES) && readTries(world);
            }
            if (tokens.isWord("memory")) {
                return tellOnce(MEMORY) && readMemory(world);
            }
            if (tokens.isWord("beacon")) {
                return readBeacon(world);
            }
            if (tokens.isWord("near")) {
                return readNear(world);
            }
            return tokens.fail(WRONG_TOKEN);
        }

        private boolean tellOnce(int what) {
            if ((told & what) != 0) {
                return tokens.fail(WRONG_REPETITION);
            }
            told |= what;
            tokens.advance();
            return true;
        }

        private boolean readCosts(World world) {
            for (int state = 0; state < STATES_IN_USE; state++) {
                int cost = tokens.takeNumber(0, MOST_COST);
                if (cost == NONE) {
                    return false;
                }
                world.costs[state] = cost;
            }
            return true;
        }

        private boolean readSeed(World world) {
            world.drawn = tokens.takeNumber(0, MOST_NUMBER);
            return world.drawn != NONE;
        }

        private boolean readTries(World world) {
            world.tries = tokens.takeNumber(1, MOST_TRIES);
            return world.tries != NONE;
        }

        private boolean readMemory(World world) {
            world.memory = tokens.takeNumber(1, MOST_NUMBER);
            return world.memory != NONE;
        }

        private boolean readBeacon(World world) {
            if (world.count >= MOST_BEACONS) {
                return tokens.fail(TOO_MANY);
            }
            Beacon one = world.beacons[world.count];
            tokens.advance();
            if (!takeNewName(world, one) || !tokens.takeWord("every")) {
                return false;
            }
            int period = tokens.takeNumber(LEAST_PERIOD, MOST_PERIOD);
            int firstWake = period == NONE ? NONE : readPart("at", 0, period - 1, 0);
            int listens = firstWake == NONE ? NONE : readPart("listens", 1, MOST_PART, 2);
            int sends = listens == NONE ? NONE : readPart("sends", 1, MOST_PART, 2);
            int energy = sends == NONE ? NONE : readPart("energy", 1, MOST_NUMBER, MOST_NUMBER);
            if (energy == NONE) {
                return false;
            }
            one.period = period;
            one.firstWake = firstWake;
            one.listenSlots = listens;
            one.sendSlots = sends;
            one.energy = energy;
            world.count++;
            return true;
        }

        private boolean takeNewName(World world, Beacon one) {
            if (tokens.kind != Tokens.WORD) {
                return tokens.fail(WRONG_TOKEN);
            }
            if (world.find(tokens.value) != NONE) {
                return tokens.fail(WRONG_REPETITION);
            }
            one.begin(tokens.value);
            tokens.advance();
            return true;
        }

        /** The number behind a word that may stand here, or what holds without it; NONE if there is an error. */
        private int readPart(String word, int least, int most, int without) {
            if (!tokens.isWord(word)) {
                return without;
            }
            tokens.advance();
            return tokens.takeNumber(least, most);
        }

        private boolean readNear(World world) {
            tokens.advance();
            int first = tokens.beaconHere(world);
            if (first == NONE) {
                return false;
            }
            tokens.advance();
            int second = tokens.beaconHere(world);
            if (second == NONE) {
                return false;
            }
            if (second == first || isIn(world.beacons[first].near, second)) {
                return tokens.fail(WRONG_REPETITION);
            }
            world.switchNear(first, second);
            tokens.advance();
            return true;
        }
    }

    /** Reads a script and does its commands. */
    private static final class Script {
        private static final int RUN = 0;
        private static final int WAKE = 1;
        private static final int EVERY = 2;
        private static final int AT = 3;
        private static final int CHARGE = 4;
        private static final int NEAR = 5;
        private static final int FAR = 6;
        private static final int REPEAT = 7;
        private static final int CLOSE = 8;

        private static final int MOST_COMMANDS = 30;
        private static final int MOST_DONE = 40;
        private static final int MOST_REPEATS = 20;
        private static final int MOST_DEPTH = 2;
        // each command may be a "repeat", which has a closing step too
        private static final int MOST_STEPS = 2 * MOST_COMMANDS;
        // far above the some 12,000 turns of the longest "repeat"s without commands
        private static final int MOST_TURNS = 1000000;

        private final Tokens tokens;
        private final int[] kinds;
        private final int[] first;
        private final int[] second;
        private int steps;
        private int commands;
        private final int[] opened;
        private final int[] turnsLeft;
        private int depth;

        private Script() {
            tokens = new Tokens();
            kinds = new int[MOST_STEPS];
            first = new int[MOST_STEPS];
            second = new int[MOST_STEPS];
            opened = new int[MOST_DEPTH];
            turnsLeft = new int[MOST_DEPTH];
        }

        /** Answers whether the script is right, whose names are those of the given world. */
        private boolean readAll(World world) {
            steps = 0;
            commands = 0;
            depth = 0;
            for (int k = 0; k <= MOST_BYTES && (depth > 0 || tokens.kind != Tokens.END); k++) {
                if (!readStep(world)) {
                    return false;
                }
            }
            return true;
        }

        private boolean readStep(World world) {
            if (depth > 0 && tokens.kind == ')') {
                return readClose();
            }
            int kind = kindHere();
            if (kind == NONE) {
                return tokens.fail(WRONG_TOKEN);
            }
            if (kind == REPEAT && depth >= MOST_DEPTH) {
                return tokens.fail(WRONG_REPETITION);
            }
            if (commands >= MOST_COMMANDS) {
                return tokens.fail(TOO_MANY);
            }
            commands++;
            tokens.advance();
            return kind == REPEAT ? readRepeat() : readCommand(world, kind) && tokens.takeSign(';');
        }

        private int kindHere() {
            if (tokens.isWord("run")) {
                return RUN;
            }
            if (tokens.isWord("wake")) {
                return WAKE;
            }
            if (tokens.isWord("every")) {
                return EVERY;
            }
            if (tokens.isWord("at")) {
                return AT;
            }
            if (tokens.isWord("charge")) {
                return CHARGE;
            }
            if (tokens.isWord("near")) {
                return NEAR;
            }
            if (tokens.isWord("far")) {
                return FAR;
            }
            return tokens.isWord("repeat") ? REPEAT : NONE;
        }

        private boolean readRepeat() {
            int times = tokens.takeNumber(1, MOST_REPEATS);
            if (times == NONE || !tokens.takeSign('(') || depth >= MOST_DEPTH) {
                return false;
            }
            opened[depth] = steps;
            depth++;
            add(REPEAT, times, 0);
            return true;
        }

        private boolean readClose() {
            tokens.advance();
            if (!tokens.takeSign(';') || depth < 1 || depth > MOST_DEPTH) {
                return false;
            }
            depth--;
            add(CLOSE, opened[depth], 0);
            return true;
        }

        private boolean readCommand(World world, int kind) {
            if (kind == RUN) {
                int slots = tokens.takeNumber(0, MOST_NUMBER);
                add(kind, slots, 0);
                return slots != NONE;
            }
            int beacon = tokens.beaconHere(world);
            if (beacon == NONE) {
                return false;
            }
            tokens.advance();
            int behind = readBehindName(world, kind, beacon);
            add(kind, beacon, behind);
            return behind != NONE;
        }

        /** What stands behind the first name of a command, 0 for nothing; NONE if there is an error. */
        private int readBehindName(World world, int kind, int beacon) {
            if (kind == WAKE) {
                return 0;
            }
            if (kind != NEAR && kind != FAR) {
                return tokens.takeNumber(0, MOST_NUMBER);
            }
            int other = tokens.beaconHere(world);
            if (other == beacon) {
                tokens.fail(WRONG_REPETITION);
                return NONE;
            }
            if (other != NONE) {
                tokens.advance();
            }
            return other;
        }

        private void add(int kind, int a, int b) {
            if (steps < MOST_STEPS) {
                kinds[steps] = kind;
                first[steps] = a;
                second[steps] = b;
                steps++;
            }
        }

        /** Does the commands; answers how many were done. */
        private int runCommands(World world) {
            int done = 0;
            int at = 0;
            depth = 0;
            for (int turns = 0; turns < MOST_TURNS && at >= 0 && at < steps && done < MOST_DONE; turns++) {
                if (kinds[at] == REPEAT) {
                    openRepeat(first[at]);
                } else if (kinds[at] == CLOSE) {
                    at = closeRepeat(at);
                } else if (perform(world, kinds[at], first[at], second[at])) {
                    done++;
                } else {
                    return done;
                }
                at++;
            }
            return done;
        }

        private void openRepeat(int times) {
            if (depth < MOST_DEPTH) {
                turnsLeft[depth] = times;
                depth++;
            }
        }

        /** The step behind which the script goes on when a "repeat" closes. */
        private int closeRepeat(int at) {
            if (depth < 1 || depth > MOST_DEPTH) {
                return at;
            }
            turnsLeft[depth - 1]--;
            if (turnsLeft[depth - 1] > 0) {
                return first[at];
            }
            depth--;
            return at;
        }

        /** Does a command as its method would; false, and nothing changes, if that would throw or return false. */
        private static boolean perform(World world, int kind, int a, int b) {
            if (kind == RUN) {
                boolean isAllowed = world.mayPass(a);
                if (isAllowed) {
                    world.pass(a);
                }
                return isAllowed;
            }
            if (a < 0 || a >= world.count) {
                return false;
            }
            Beacon one = world.beacons[a];
            switch (kind) {
                case WAKE: return performWake(one);
                case EVERY: return performEvery(one, b);
                case AT: return performAt(one, b);
                case CHARGE: return performCharge(one, b);
                default: return performNear(world, a, b, kind == NEAR);
            }
        }

        private static boolean performWake(Beacon one) {
            if (one.state != ASLEEP) {
                return false;
            }
            one.startListening();
            return true;
        }

        private static boolean performEvery(Beacon one, int period) {
            if (!one.allowsPeriod(period)) {
                return false;
            }
            one.period = period;
            return true;
        }

        private static boolean performAt(Beacon one, int at) {
            if (!one.allowsFirstWake(at)) {
                return false;
            }
            one.firstWake = at;
            return true;
        }

        private static boolean performCharge(Beacon one, int by) {
            if (!isCharge(by)) {
                return false;
            }
            one.takeEnergy(by);
            return true;
        }

        private static boolean performNear(World world, int beacon, int other, boolean isNear) {
            if (other < 0 || other >= world.count || isIn(world.beacons[beacon].near, other) == isNear) {
                return false;
            }
            world.switchNear(beacon, other);
            return true;
        }
    }

    /** The latest report. */
    private static final class Page {
        // eight lines of 95 bytes at most: 8 of a name, 7 of a word, 2, 4, seven others' 10 each, and 4
        private static final int MOST_SIGNS = 800;

        private final byte[] bytes;
        private int length;

        private Page() {
            bytes = new byte[MOST_SIGNS];
        }

        private void clear() {
            length = 0;
        }

        private void writeLine(World world, Beacon one) {
            writeName(one.name);
            write(' ');
            writeWord(stateWord(one.state));
            write(' ');
            writeNumber(one.left);
            write(' ');
            writeNumber(one.energy);
            int known = world.knownTo(one);
            for (int k = 0; k < world.count; k++) {
                if (isIn(known, k)) {
                    write(' ');
                    write('+');
                    writeName(world.beacons[k].name);
                }
            }
            write('\n');
        }

        private static String stateWord(int state) {
            switch (state) {
                case ASLEEP: return "sleeps";
                case LISTENS: return "listens";
                case WAITS: return "waits";
                case SENDS: return "sends";
                default: return "out";
            }
        }

        private void write(int sign) {
            if (length < MOST_SIGNS) {
                bytes[length] = (byte) sign;
                length++;
            }
        }

        private void writeWord(String word) {
            for (int k = 0; k < word.length(); k++) {
                write(word.charAt(k));
            }
        }

        private void writeName(long name) {
            for (int k = 0; k < MOST_LETTERS && letterOf(name, k) != 0; k++) {
                write(letterOf(name, k));
            }
        }

        /** Writes a number from 0 to MOST_ENERGY. */
        private void writeNumber(int number) {
            int rest = number;
            boolean isBegun = false;
            for (int unit = 1000; unit > 0; unit /= 10) {
                int digit = rest / unit;
                rest -= digit * unit;
                isBegun = isBegun || digit > 0 || unit == 1;
                if (isBegun) {
                    write('0' + digit);
                }
            }
        }
    }
}

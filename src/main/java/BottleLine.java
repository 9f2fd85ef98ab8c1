/**
 * A bottling line: cells, a filler with valves, a scale, a capper, a labeller, a check and a pusher.
 * What each call promises stands in the project's document; README.md tells how to use the class.
 */
public final class BottleLine {
    public static final int UNKNOWN = -1, BAD = -2, LATE = -3, FULL = -4, NONE = -9;

    private static final int MAX_TEXT = 90;
    private static final int MAX_LETTER = 255;
    private static final int MIN_CELLS = 6;
    private static final int MAX_CELLS = 9;
    private static final int MAX_VALVES = 4;
    private static final int MAX_ENTRIES = 24;
    private static final int MAX_STOCK = 99;
    private static final int MAX_FILL = 99;
    private static final int MAX_ACTS = 14;
    private static final int MAX_SEEN = 6;
    private static final int SLOTS = 2;

    private static final int STATIONS = 5;
    private static final int SCALE = 0;
    private static final int CAPPER = 1;
    private static final int LABELLER = 2;
    private static final int CHECK = 3;
    private static final int PUSHER = 4;

    private static final int GAP_ENTRY = 0;
    private static final int BOTTLE_ENTRY = 1;
    private static final int LEAKING_ENTRY = 2;

    private static final int NO_MARK = 0;
    private static final int BAD_MARK = 1;
    private static final int SAMPLE_MARK = 2;

    private static final int OUT = 1;
    private static final int ESCAPED = 2;
    private static final int REJECTED = 3;
    private static final int SAMPLED = 4;

    private static final int MAX_STEPS = 99;
    private static final int GOES_STEPS = 60;
    private static final int BEST_STEPS = 30;
    private static final int NEEDS_STEPS = 40;
    private static final int NEEDS_MOST = 40;
    private static final int SHARE_STEPS = 30;
    private static final int SEEN_STEPS = 20;
    private static final int SLIP_TIMES = 10;
    private static final int CHANCE_STEPS = 6;
    private static final int MAX_COMMANDS = 3;
    private static final int MAX_EVENTS = 20;
    private static final long RANDOM_FACTOR = 6364136223846793005L;
    private static final long RANDOM_SUMMAND = 1442695040888963407L;

    private final int[] text = new int[MAX_TEXT];
    private int textLength;
    private final Reader reader = new Reader();
    private final Plan plan = new Plan();
    private final State now = new State(plan);
    /** What the asking methods simulate on, so that the present state stays as it is. */
    private final State trial = new State(plan);
    /** A ring of the states before the remembered acts; the latest stands before nextPast. */
    private final State[] past = new State[MAX_ACTS];
    private int pastCount;
    private int nextPast;
    private final State[] slots = new State[SLOTS];
    private final boolean[] isKept = new boolean[SLOTS];
    private final int[] seenWhat = new int[MAX_SEEN];
    private final int[] seenAfter = new int[MAX_SEEN];
    private final int[] seenValue = new int[MAX_SEEN];
    private int seenCount;
    private long random;

    public BottleLine() {
        for (int i = 0; i < MAX_ACTS; i++) {
            past[i] = new State(plan);
        }
        for (int i = 0; i < SLOTS; i++) {
            slots[i] = new State(plan);
        }
    }

    // ---- the line

    public int write(int letter) {
        if (!isWithin(letter, 0, MAX_LETTER)) {
            return BAD;
        }
        if (textLength >= MAX_TEXT) {
            return FULL;
        }
        text[textLength] = letter;
        textLength++;
        return textLength;
    }

    public int wipe() {
        int had = textLength;
        textLength = 0;
        return had;
    }

    public int fault() {
        return readText();
    }

    public int line() {
        if (readText() != NONE) {
            return LATE;
        }
        plan.copyFrom(reader.plan);
        now.copyFrom(reader.start);
        forgetActs();
        for (int i = 0; i < SLOTS; i++) {
            isKept[i] = false;
        }
        return plan.valves;
    }

    public int about(int what) {
        switch (what) {
            case 0: return plan.cells;
            case 1: return plan.valves;
            case 2: return plan.target;
            case 3: return plan.tolerance;
            case 4: return plan.each;
            case 18: return pastCount;
            case 19: return seenCount;
            case 20: return textLength;
            default: return now.number(what);
        }
    }

    public int place(int what) {
        return isWithin(what, 0, STATIONS - 1) ? plan.stations[what] : BAD;
    }

    public int cell(int cell, int what) {
        if (!plan.hasCell(cell)) {
            return UNKNOWN;
        }
        int bottle = now.bottles[cell];
        switch (what) {
            case 0: return now.marks[cell];
            case 1: return asNumber(bottle != Bottle.NO_BOTTLE);
            case 2: return bottle == Bottle.NO_BOTTLE ? NONE : Bottle.fillOf(bottle);
            case 3: return Bottle.valveOf(bottle);
            case 4: return asNumber(Bottle.has(bottle, Bottle.CAP));
            case 5: return asNumber(Bottle.has(bottle, Bottle.LABEL));
            case 6: return asNumber(Bottle.has(bottle, Bottle.LEAK));
            case 7: return asNumber(plan.isGood(bottle));
            default: return BAD;
        }
    }

    public int valve(int valve, int what) {
        if (!plan.hasValve(valve)) {
            return UNKNOWN;
        }
        switch (what) {
            case 0: return now.settings[valve];
            case 1: return plan.drifts[valve] + Plan.DRIFT_ZERO;
            default: return BAD;
        }
    }

    public int queue(int place) {
        if (!isWithin(place, 0, MAX_ENTRIES - 1)) {
            return BAD;
        }
        return place < now.entryCount ? now.entries[place] : NONE;
    }

    // ---- acts

    public int step(int n) {
        if (!isWithin(n, 1, MAX_STEPS)) {
            return BAD;
        }
        if (now.alarm) {
            return LATE;
        }
        rememberAct();
        return now.advance(n);
    }

    public int slip() {
        rememberAct();
        now.moveMarks();
        return now.countMarks();
    }

    public int jam() {
        rememberAct();
        now.jammed = !now.jammed;
        return asNumber(now.jammed);
    }

    public int clear() {
        if (!now.alarm) {
            return LATE;
        }
        rememberAct();
        return asNumber(now.endAlarm());
    }

    public int restart() {
        rememberAct();
        now.markBeforeScale();
        return now.countMarks();
    }

    public int lay(boolean labels, int n) {
        if (!isWithin(n, 1, 9)) {
            return BAD;
        }
        if (now.stock(labels) + n > MAX_STOCK) {
            return FULL;
        }
        rememberAct();
        now.addStock(labels, n);
        return now.stock(labels);
    }

    public int set(int valve, int v) {
        if (!plan.hasValve(valve)) {
            return UNKNOWN;
        }
        if (!isWithin(v, 0, MAX_FILL)) {
            return BAD;
        }
        rememberAct();
        int previous = now.settings[valve];
        now.settings[valve] = v;
        return previous;
    }

    public int come(int what) {
        if (!isWithin(what, GAP_ENTRY, LEAKING_ENTRY)) {
            return BAD;
        }
        if (now.entryCount >= MAX_ENTRIES) {
            return FULL;
        }
        rememberAct();
        now.addEntry(what);
        return now.entryCount;
    }

    public int undo() {
        if (pastCount == 0) {
            return LATE;
        }
        nextPast = (nextPast + MAX_ACTS - 1) % MAX_ACTS;
        pastCount--;
        now.copyFrom(past[nextPast]);
        return pastCount;
    }

    // ---- asked

    public int ahead(int n, int what) {
        if (!isWithin(n, 0, MAX_STEPS) || !isWithin(what, 5, 17)) {
            return BAD;
        }
        trial.copyFrom(now);
        trial.advance(n);
        return trial.number(what);
    }

    public int goes(int cell, int what) {
        if (!plan.hasCell(cell)) {
            return UNKNOWN;
        }
        if (!isWithin(what, 0, 1)) {
            return BAD;
        }
        if (now.bottles[cell] == Bottle.NO_BOTTLE) {
            return LATE;
        }
        trial.copyFrom(now);
        for (int done = 0; done < GOES_STEPS && !trial.alarm; done++) {
            int way = wayInNextStep(cell + done);
            if (way != NONE) {
                return what == 0 ? done + 1 : way;
            }
        }
        return NONE;
    }

    public int best(int valve) {
        if (!plan.hasValve(valve)) {
            return UNKNOWN;
        }
        int best = 0;
        int most = -1;
        for (int v = 0; v <= MAX_FILL; v++) {
            trial.copyFrom(now);
            trial.settings[valve] = v;
            trial.advance(BEST_STEPS);
            if (trial.out > most) {
                most = trial.out;
                best = v;
            }
        }
        return best;
    }

    public int needs(boolean labels) {
        int enough = outWithMore(labels, NEEDS_MOST);
        for (int n = 0; n < NEEDS_MOST; n++) {
            if (outWithMore(labels, n) == enough) {
                return n;
            }
        }
        return NEEDS_MOST;
    }

    public int judge(int n, int row) {
        if (!isWithin(n, 1, MAX_COMMANDS)) {
            return BAD;
        }
        int unit = 1;
        for (int i = 0; i < n; i++) {
            unit *= 1000;
        }
        if (row < 0 || row >= unit) {
            return BAD;
        }
        trial.copyFrom(now);
        for (int i = 0; i < n; i++) {
            unit = Math.max(1, unit / 1000);
            if (!obeys(row / unit % 1000)) {
                return i;
            }
        }
        return NONE;
    }

    // ---- seen

    public int see(int what, int n, int v) {
        if (!isWithin(what, 0, 2) || !isWithin(n, 0, SEEN_STEPS) || !isWithin(v, 0, 99)) {
            return BAD;
        }
        if (seenCount >= MAX_SEEN) {
            return FULL;
        }
        seenWhat[seenCount] = what;
        seenAfter[seenCount] = n;
        seenValue[seenCount] = v;
        seenCount++;
        return seenCount;
    }

    public int unsee() {
        int had = seenCount;
        seenCount = 0;
        return had;
    }

    public int which() {
        int times = 0;
        for (int i = 0; i < SLIP_TIMES; i++) {
            if (agreesWithSlipAfter(i)) {
                times |= 1 << i;
            }
        }
        return times;
    }

    // ---- shares, chances

    public int share(int valve, boolean upper) {
        if (!plan.hasValve(valve)) {
            return UNKNOWN;
        }
        int others = plan.valves - 1;
        int self = 1 << valve;
        int all = (1 << plan.valves) - 1;
        int sum = 0;
        for (int on = 0; on <= all; on++) {
            if ((on & self) == 0) {
                int before = Integer.bitCount(on);
                int orders = factorial(before) * factorial(others - before);
                sum += orders * (outWithOff(all & ~(on | self)) - outWithOff(all & ~on));
            }
        }
        return partOf(sum, factorial(plan.valves), upper);
    }

    public int chance(int n, int x, boolean upper) {
        if (!isWithin(n, 1, CHANCE_STEPS) || !isWithin(x, 0, 10)) {
            return BAD;
        }
        // A jam changes a step only by an alarm, so all ways without an alarm are one way:
        // the pusher is free in each step in which it pushes.
        int numerator = 1;
        int denominator = 1;
        trial.copyFrom(now);
        for (int i = 0; i < n && !trial.alarm; i++) {
            int before = trial.rejected + trial.sampled;
            trial.advance(1);
            if (trial.rejected + trial.sampled > before) {
                numerator *= 10 - x;
                denominator *= 10;
            }
        }
        return partOf(trial.alarm ? 0 : numerator, denominator, upper);
    }

    public long seed(long v) {
        long previous = random;
        random = v;
        return previous;
    }

    public int drawn(int m) {
        if (!isWithin(m, 1, MAX_EVENTS)) {
            return BAD;
        }
        trial.copyFrom(now);
        int sum = 0;
        for (int i = 0; i < m; i++) {
            random = random * RANDOM_FACTOR + RANDOM_SUMMAND;
            happen((int) (random >>> 33) % 10);
            sum += trial.out - trial.escaped;
        }
        return sum;
    }

    // ---- slots

    public int keep(int slot) {
        if (!isWithin(slot, 0, SLOTS - 1)) {
            return UNKNOWN;
        }
        slots[slot].copyFrom(now);
        isKept[slot] = true;
        return now.steps;
    }

    public int again(int slot) {
        if (!isWithin(slot, 0, SLOTS - 1)) {
            return UNKNOWN;
        }
        if (!isKept[slot]) {
            return LATE;
        }
        now.copyFrom(slots[slot]);
        forgetActs();
        return now.steps;
    }

    // ---- helpers

    private static boolean isWithin(int value, int least, int most) {
        return value >= least && value <= most;
    }

    private static int asNumber(boolean value) {
        return value ? 1 : 0;
    }

    private static int limited(int value) {
        return Math.max(0, Math.min(MAX_FILL, value));
    }

    private static int factorial(int n) {
        int product = 1;
        for (int i = 2; i <= n && i <= MAX_VALVES; i++) {
            product *= i;
        }
        return product;
    }

    private static int partOf(int numerator, int denominator, boolean upper) {
        int divisor = Math.max(1, commonDivisor(Math.abs(numerator), denominator));
        return (upper ? numerator : denominator) / divisor;
    }

    private static int commonDivisor(int a, int b) {
        // Euclid's way needs fewer than 50 rounds for any two ints.
        for (int i = 0; i < 50 && b != 0; i++) {
            int rest = a % b;
            a = b;
            b = rest;
        }
        return a;
    }

    /** Returns the text's fault; without one the reader has the line that the text describes. */
    private int readText() {
        reader.begin();
        for (int i = 0; i < textLength; i++) {
            if (!reader.takes(text[i])) {
                return i;
            }
        }
        return reader.isComplete() ? NONE : textLength;
    }

    private void rememberAct() {
        past[nextPast].copyFrom(now);
        nextPast = (nextPast + 1) % MAX_ACTS;
        pastCount = Math.min(MAX_ACTS, pastCount + 1);
    }

    private void forgetActs() {
        pastCount = 0;
    }

    /** Tells how the trial's bottle in this cell leaves in the next step; if it stays, does the step: NONE. */
    private int wayInNextStep(int cell) {
        if (cell >= plan.cells - 1) {
            return plan.isGood(trial.bottles[plan.cells - 1]) ? OUT : ESCAPED;
        }
        int rejected = trial.rejected;
        int sampled = trial.sampled;
        trial.advance(1);
        if (cell + 1 != plan.stations[PUSHER]) {
            return NONE;
        }
        if (trial.rejected > rejected) {
            return REJECTED;
        }
        return trial.sampled > sampled ? SAMPLED : NONE;
    }

    private int outWithMore(boolean labels, int n) {
        trial.copyFrom(now);
        trial.addStock(labels, n);
        trial.advance(NEEDS_STEPS);
        return trial.out;
    }

    private int outWithOff(int valves) {
        trial.copyFrom(now);
        trial.off = valves;
        trial.advance(SHARE_STEPS);
        return trial.out;
    }

    /** Lets the trial obey a command of judge; false if the command is wrong. */
    private boolean obeys(int command) {
        int a = command / 10 % 10;
        int b = command % 10;
        int ab = command % 100;
        switch (command / 100) {
            case 1: return ab >= 1 && trial.advance(ab) == ab;
            case 2:
            case 3:
            case 4:
            case 5: return ab == 0 && intervenes(command / 100);
            case 6: return b == 0 && plan.hasValve(a) && trial.nextValve() == a;
            case 7: return trial.out == ab;
            case 8: return plan.hasCell(a) && trial.marks[a] == b;
            case 9: return b <= 1 && plan.hasCell(a) && trial.bottles[a] != Bottle.NO_BOTTLE
                    && plan.isGood(trial.bottles[a]) == (b == 1);
            default: return false;
        }
    }

    private boolean intervenes(int command) {
        switch (command) {
            case 2:
                trial.moveMarks();
                return true;
            case 3:
                trial.jammed = !trial.jammed;
                return true;
            case 4:
                if (!trial.alarm) {
                    return false;
                }
                trial.endAlarm();
                return true;
            default:
                trial.markBeforeScale();
                return true;
        }
    }

    private boolean agreesWithSlipAfter(int slipTime) {
        trial.copyFrom(now);
        for (int done = 0; done <= SEEN_STEPS; done++) {
            if (!agreesAfter(done)) {
                return false;
            }
            if (done == slipTime) {
                trial.moveMarks();
            }
            trial.advance(1);
        }
        return true;
    }

    private boolean agreesAfter(int done) {
        for (int i = 0; i < seenCount; i++) {
            if (seenAfter[i] == done && trial.observed(seenWhat[i]) != seenValue[i]) {
                return false;
            }
        }
        return true;
    }

    /** Lets a random event of drawn happen to the trial. */
    private void happen(int event) {
        switch (event) {
            case 0:
                trial.moveMarks();
                break;
            case 1:
                trial.jammed = !trial.jammed;
                break;
            case 2:
                if (trial.alarm) {
                    trial.endAlarm();
                } else {
                    trial.markBeforeScale();
                }
                break;
            default:
                trial.advance(1);
                break;
        }
    }

    /** A bottle is held as one int, so that whole rows of them can be moved and copied at once. */
    private static final class Bottle {
        static final int NO_BOTTLE = 0;
        static final int CAP = 1 << 10;
        static final int LABEL = 1 << 11;
        static final int LEAK = 1 << 12;
        static final int PRESENT = 1 << 13;
        private static final int FILL_BITS = 127;
        private static final int VALVE_SHIFT = 7;
        /** The valve's number plus 1, so that a new bottle has no valve. */
        private static final int VALVE_BITS = 7;

        static boolean has(int bottle, int property) {
            return (bottle & property) != 0;
        }

        static int fillOf(int bottle) {
            return bottle & FILL_BITS;
        }

        static int valveOf(int bottle) {
            int valve = (bottle >> VALVE_SHIFT & VALVE_BITS) - 1;
            return valve < 0 ? NONE : valve;
        }

        static int ofEntry(int entry) {
            switch (entry) {
                case BOTTLE_ENTRY: return PRESENT;
                case LEAKING_ENTRY: return PRESENT | LEAK;
                default: return NO_BOTTLE;
            }
        }

        static int filled(int bottle, int valve, int fill) {
            int rest = bottle & ~(FILL_BITS | VALVE_BITS << VALVE_SHIFT);
            return rest | fill | valve + 1 << VALVE_SHIFT;
        }

        /** Only for a bottle that is not empty: its fill stands in the lowest bits. */
        static int leaked(int bottle) {
            return bottle - 1;
        }
    }

    /** What of a line never changes while it runs. */
    private static final class Plan {
        static final int DRIFT_ZERO = 4;
        int cells;
        final int[] stations = new int[STATIONS];
        int target;
        int tolerance;
        int each;
        int valves;
        final int[] drifts = new int[MAX_VALVES];

        Plan() {
            cells = MIN_CELLS;
            for (int i = 0; i < STATIONS; i++) {
                stations[i] = i + 1;
            }
        }

        void copyFrom(Plan other) {
            cells = other.cells;
            System.arraycopy(other.stations, 0, stations, 0, STATIONS);
            target = other.target;
            tolerance = other.tolerance;
            each = other.each;
            valves = other.valves;
            System.arraycopy(other.drifts, 0, drifts, 0, MAX_VALVES);
        }

        boolean hasCell(int cell) {
            return isWithin(cell, 0, cells - 1);
        }

        boolean hasValve(int valve) {
            return isWithin(valve, 0, valves - 1);
        }

        boolean isGood(int bottle) {
            return Bottle.has(bottle, Bottle.CAP) && Bottle.has(bottle, Bottle.LABEL)
                    && Math.abs(Bottle.fillOf(bottle) - target) <= tolerance;
        }
    }

    /** What of a line changes while it runs: all that is undone, kept and tried. */
    private static final class State {
        private final Plan plan;
        final int[] bottles = new int[MAX_CELLS];
        final int[] marks = new int[MAX_CELLS];
        final int[] settings = new int[MAX_VALVES];
        /** The set of the valves that are off; only share switches valves off. */
        int off;
        final int[] entries = new int[MAX_ENTRIES];
        int entryCount;
        int caps;
        int labels;
        int steps;
        boolean alarm;
        boolean jammed;
        int out;
        int escaped;
        int rejected;
        int sampled;
        int byHand;
        int passed;

        State(Plan plan) {
            this.plan = plan;
        }

        void copyFrom(State other) {
            System.arraycopy(other.bottles, 0, bottles, 0, MAX_CELLS);
            System.arraycopy(other.marks, 0, marks, 0, MAX_CELLS);
            System.arraycopy(other.settings, 0, settings, 0, MAX_VALVES);
            off = other.off;
            System.arraycopy(other.entries, 0, entries, 0, MAX_ENTRIES);
            entryCount = other.entryCount;
            caps = other.caps;
            labels = other.labels;
            steps = other.steps;
            alarm = other.alarm;
            jammed = other.jammed;
            out = other.out;
            escaped = other.escaped;
            rejected = other.rejected;
            sampled = other.sampled;
            byHand = other.byHand;
            passed = other.passed;
        }

        /** Returns a number of about, 5 to 17; BAD for any other. */
        int number(int what) {
            switch (what) {
                case 5: return caps;
                case 6: return labels;
                case 7: return entryCount;
                case 8: return steps;
                case 9: return asNumber(alarm);
                case 10: return asNumber(jammed);
                case 11: return out;
                case 12: return escaped;
                case 13: return rejected;
                case 14: return sampled;
                case 15: return byHand;
                case 16: return passed;
                case 17: return bottleSet();
                default: return BAD;
            }
        }

        int observed(int what) {
            switch (what) {
                case 0: return out;
                case 1: return rejected;
                default: return escaped;
            }
        }

        private int bottleSet() {
            int found = 0;
            for (int i = 0; i < plan.cells; i++) {
                if (bottles[i] != Bottle.NO_BOTTLE) {
                    found |= 1 << i;
                }
            }
            return found;
        }

        int countMarks() {
            int count = 0;
            for (int i = 0; i < plan.cells; i++) {
                count += asNumber(marks[i] != NO_MARK);
            }
            return count;
        }

        int stock(boolean ofLabels) {
            return ofLabels ? labels : caps;
        }

        void addStock(boolean ofLabels, int n) {
            if (ofLabels) {
                labels = Math.min(MAX_STOCK, labels + n);
            } else {
                caps = Math.min(MAX_STOCK, caps + n);
            }
        }

        void addEntry(int entry) {
            if (entryCount < MAX_ENTRIES) {
                entries[entryCount] = entry;
                entryCount++;
            }
        }

        /** Returns the valve whose turn it is, or NONE. */
        int nextValve() {
            return plan.valves == 0 ? NONE : Math.floorMod(steps, plan.valves);
        }

        void moveMarks() {
            System.arraycopy(marks, 0, marks, 1, plan.cells - 1);
            marks[0] = NO_MARK;
        }

        /** Returns whether a bottle was taken away. */
        boolean endAlarm() {
            int at = plan.stations[PUSHER];
            boolean taken = bottles[at] != Bottle.NO_BOTTLE;
            if (taken) {
                bottles[at] = Bottle.NO_BOTTLE;
                byHand++;
            }
            marks[at] = NO_MARK;
            alarm = false;
            return taken;
        }

        void markBeforeScale() {
            for (int i = 0; i <= plan.stations[SCALE]; i++) {
                if (bottles[i] != Bottle.NO_BOTTLE) {
                    marks[i] = BAD_MARK;
                }
            }
        }

        /** Does n steps, but none after an alarm; returns how many were done. */
        int advance(int n) {
            int done = 0;
            while (done < n && !alarm) {
                leave();
                moveOn();
                leak();
                fill();
                weigh();
                equip();
                check();
                push();
                steps++;
                done++;
            }
            return done;
        }

        private void leave() {
            int last = bottles[plan.cells - 1];
            if (last == Bottle.NO_BOTTLE) {
                return;
            }
            if (plan.isGood(last)) {
                out++;
            } else {
                escaped++;
            }
        }

        private void moveOn() {
            System.arraycopy(bottles, 0, bottles, 1, plan.cells - 1);
            bottles[0] = Bottle.NO_BOTTLE;
            moveMarks();
            if (entryCount > 0) {
                bottles[0] = Bottle.ofEntry(entries[0]);
                entryCount--;
                System.arraycopy(entries, 1, entries, 0, entryCount);
            }
        }

        private void leak() {
            for (int i = 0; i < plan.cells; i++) {
                int bottle = bottles[i];
                if (Bottle.has(bottle, Bottle.LEAK) && Bottle.fillOf(bottle) > 0) {
                    bottles[i] = Bottle.leaked(bottle);
                }
            }
        }

        private void fill() {
            int valve = nextValve();
            if (bottles[0] == Bottle.NO_BOTTLE || !plan.hasValve(valve)) {
                return;
            }
            int amount = isOff(valve) ? 0 : limited(settings[valve] + plan.drifts[valve]);
            bottles[0] = Bottle.filled(bottles[0], valve, amount);
        }

        private boolean isOff(int valve) {
            return (off >> valve & 1) != 0;
        }

        private void weigh() {
            int bottle = bottles[plan.stations[SCALE]];
            int valve = Bottle.valveOf(bottle);
            if (plan.hasValve(valve) && !isOff(valve)) {
                int correction = (plan.target - Bottle.fillOf(bottle)) / 2;
                settings[valve] = limited(settings[valve] + correction);
            }
        }

        private void equip() {
            int atCapper = plan.stations[CAPPER];
            if (bottles[atCapper] != Bottle.NO_BOTTLE && caps > 0) {
                bottles[atCapper] |= Bottle.CAP;
                caps--;
            }
            int atLabeller = plan.stations[LABELLER];
            if (bottles[atLabeller] != Bottle.NO_BOTTLE && labels > 0) {
                bottles[atLabeller] |= Bottle.LABEL;
                labels--;
            }
        }

        private void check() {
            int at = plan.stations[CHECK];
            if (bottles[at] == Bottle.NO_BOTTLE) {
                return;
            }
            if (!plan.isGood(bottles[at])) {
                marks[at] = BAD_MARK;
            } else if (marks[at] == NO_MARK) {
                passed++;
                if (plan.each != 0 && passed % plan.each == 0) {
                    marks[at] = SAMPLE_MARK;
                }
            }
        }

        private void push() {
            int at = plan.stations[PUSHER];
            if (marks[at] == NO_MARK) {
                return;
            }
            if (bottles[at] == Bottle.NO_BOTTLE || jammed) {
                alarm = true;
                return;
            }
            if (marks[at] == BAD_MARK) {
                rejected++;
            } else {
                sampled++;
            }
            bottles[at] = Bottle.NO_BOTTLE;
            marks[at] = NO_MARK;
        }
    }

    /** Reads a text letter by letter, and takes only letters that can stand at their place. */
    private static final class Reader {
        private static final int HEAD_LENGTH = 11;
        private static final int FIRST_STATION = 2;
        private static final int NO_PART = 0;
        final Plan plan = new Plan();
        /** The line that is read, as it is when it is begun. */
        final State start = new State(plan);
        private int headTaken;
        /** The letter of the part whose digits are awaited. */
        private int part;
        private int partDigits;
        private int partNumber;

        void begin() {
            headTaken = 0;
            part = NO_PART;
            plan.valves = 0;
            start.caps = 0;
            start.labels = 0;
            start.entryCount = 0;
        }

        boolean isComplete() {
            return headTaken == HEAD_LENGTH && part == NO_PART;
        }

        boolean takes(int letter) {
            if (headTaken < HEAD_LENGTH) {
                boolean fits = takesInHead(letter);
                headTaken++;
                return fits;
            }
            return part == NO_PART ? takesPart(letter) : takesDigit(letter);
        }

        private static boolean isDigit(int letter) {
            return isWithin(letter, '0', '9');
        }

        private boolean takesInHead(int letter) {
            if (headTaken == 0) {
                return letter == 'B';
            }
            if (!isDigit(letter)) {
                return false;
            }
            int digit = letter - '0';
            switch (headTaken) {
                case 1:
                    plan.cells = digit;
                    return digit >= MIN_CELLS;
                case 7:
                    plan.target = digit * 10;
                    return true;
                case 8:
                    plan.target += digit;
                    return true;
                case 9:
                    plan.tolerance = digit;
                    return true;
                case 10:
                    plan.each = digit;
                    return true;
                default:
                    return takesStation(headTaken - FIRST_STATION, digit);
            }
        }

        private boolean takesStation(int station, int digit) {
            int least = station == 0 ? 1 : plan.stations[station - 1] + 1;
            // Each station that follows needs a cell too.
            int most = plan.cells - STATIONS + station;
            plan.stations[station] = digit;
            return isWithin(digit, least, most);
        }

        private boolean takesPart(int letter) {
            switch (letter) {
                case 'v': return opensPart(letter, plan.valves < MAX_VALVES);
                case 'c': return opensPart(letter, start.caps < MAX_STOCK);
                case 'l': return opensPart(letter, start.labels < MAX_STOCK);
                case 'b': return takesEntry(BOTTLE_ENTRY);
                case 'x': return takesEntry(LEAKING_ENTRY);
                case '-': return takesEntry(GAP_ENTRY);
                default: return false;
            }
        }

        private boolean opensPart(int letter, boolean hasRoom) {
            part = letter;
            partDigits = 0;
            partNumber = 0;
            return hasRoom;
        }

        private boolean takesEntry(int entry) {
            boolean hasRoom = start.entryCount < MAX_ENTRIES;
            start.addEntry(entry);
            return hasRoom;
        }

        private boolean takesDigit(int letter) {
            if (!isDigit(letter)) {
                return false;
            }
            partDigits++;
            partNumber = partNumber * 10 + letter - '0';
            return part == 'v' ? takesValve() : takesStock(part == 'l');
        }

        private boolean takesValve() {
            if (partDigits == 3 && plan.valves < MAX_VALVES) {
                start.settings[plan.valves] = partNumber / 10;
                plan.drifts[plan.valves] = partNumber % 10 - Plan.DRIFT_ZERO;
                plan.valves++;
                part = NO_PART;
            }
            return true;
        }

        private boolean takesStock(boolean ofLabels) {
            int room = MAX_STOCK - start.stock(ofLabels);
            if (partDigits == 1) {
                return partNumber * 10 <= room;
            }
            if (!isWithin(partNumber, 1, room)) {
                return false;
            }
            start.addStock(ofLabels, partNumber);
            part = NO_PART;
            return true;
        }
    }
}

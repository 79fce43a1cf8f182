import java.util.Arrays;

/**
 * A bench of sand timers: glasses run, stick, lie and are fixed together in stacks that are turned
 * as one; spans are measured by what happens to them, and shortest plans for spans are found.
 */
public final class SandBench {
    public static final int BAD = -2, STATE = -3, FULL = -4;
    public static final int NONE = -1;

    private static final int MOST_SPAN = 40;
    private static final int MOST_COST_ASKED = 9;

    private final Bench bench = new Bench();
    private final History history = new History();
    private final Script script = new Script();
    /** Made when a plan is first asked for: its tables are large, and many benches need none. */
    private Planner planner;

    public SandBench() {
    }

    // ---- text

    public int type(int letter) {
        if (letter < 0 || letter > 127) {
            return BAD;
        }
        return script.append(letter) ? script.length() : FULL;
    }

    public int clearText() {
        return script.clear();
    }

    public int fault() {
        return script.read(bench.glasses());
    }

    // ---- changes

    public int setGlasses(int glasses) {
        if (glasses < 1 || glasses > Bench.MOST_GLASSES) {
            return BAD;
        }
        history.keep(bench);
        int before = bench.glasses();
        bench.renew(glasses);
        return before;
    }

    public int setAmount(int glass, int units) {
        if (!bench.has(glass) || units < 1 || units > Bench.MOST_UNITS) {
            return BAD;
        }
        history.keep(bench);
        int before = bench.property(glass, Bench.AMOUNT);
        bench.fill(glass, units);
        return before;
    }

    public int setKind(int glass, int kind, int grip) {
        if (!bench.has(glass) || kind < Bench.PLAIN || kind > Bench.LYING
                || grip < 1 || grip > Bench.MOST_GRIP) {
            return BAD;
        }
        history.keep(bench);
        int before = bench.property(glass, Bench.KIND);
        bench.makeKind(glass, kind, grip);
        return before;
    }

    public int fix(int glass, int other) {
        if (!bench.has(glass) || !bench.has(other)) {
            return BAD;
        }
        int stack = bench.property(glass, Bench.STACK);
        int otherStack = bench.property(other, Bench.STACK);
        if (stack == otherStack) {
            return STATE;
        }
        history.keep(bench);
        bench.join(stack, otherStack);
        return bench.property(glass, Bench.STACK);
    }

    public int loosen(int glass) {
        if (!bench.has(glass)) {
            return BAD;
        }
        int stack = bench.property(glass, Bench.STACK);
        if (bench.glassesOf(stack) == 1) {
            return STATE;
        }
        history.keep(bench);
        bench.scatter(stack);
        return bench.stacks();
    }

    public int turn(int glass) {
        if (!bench.has(glass)) {
            return BAD;
        }
        history.keep(bench);
        bench.turnStackOf(glass);
        return bench.property(glass, Bench.ABOVE);
    }

    public int tap(int glass) {
        if (!bench.has(glass)) {
            return BAD;
        }
        history.keep(bench);
        int before = bench.property(glass, Bench.STUCK);
        bench.tapGlass(glass);
        return before;
    }

    public int pass(int seconds) {
        if (seconds < 1 || seconds > 999) {
            return BAD;
        }
        if (!bench.hasTimeFor(seconds)) {
            return FULL;
        }
        history.keep(bench);
        return bench.letPass(seconds);
    }

    public int await() {
        int seconds = bench.secondsToEvent();
        if (seconds == 0) {
            return STATE;
        }
        if (!bench.hasTimeFor(seconds)) {
            return FULL;
        }
        history.keep(bench);
        bench.letPass(seconds);
        return seconds;
    }

    public int mark() {
        history.keep(bench);
        int before = bench.markedTime();
        bench.markTime();
        return before;
    }

    public int run() {
        if (script.read(bench.glasses()) != NONE) {
            return STATE;
        }
        history.keep(bench);
        int done = 0;
        while (done < script.steps() && perform(script.letter(done), script.number(done))) {
            done++;
        }
        return done;
    }

    // ---- history

    public int undo() {
        return history.restore(bench) ? history.states() : STATE;
    }

    // ---- what is told

    public int glass(int glass, int what) {
        if (!bench.has(glass) || what < 0 || what > Bench.PROPERTIES) {
            return BAD;
        }
        if (what < Bench.PROPERTIES) {
            return bench.property(glass, what);
        }
        return bench.runs(glass) ? 1 : 0;
    }

    public int event(int i, int what) {
        if (i < 0 || what < 0 || what >= Bench.EVENT_PARTS) {
            return BAD;
        }
        return i < bench.eventsListed() ? bench.eventPart(i, what) : NONE;
    }

    // ---- plans

    public int cost(int span) {
        if (!isSpan(span)) {
            return BAD;
        }
        return readyPlanner().leastCost(span);
    }

    public int planned(int span, int i, boolean set) {
        if (!isSpan(span) || i < 0) {
            return BAD;
        }
        return readyPlanner().stepOf(span, i, set);
    }

    public int measurable(int i, int most) {
        if (i < -1 || most < 0 || most > MOST_COST_ASKED) {
            return BAD;
        }
        long spans = readyPlanner().spansWithin(most);
        return i == -1 ? Long.bitCount(spans) : bitOf(spans, i);
    }

    // ---- numbers, digest

    public int count(int what) {
        switch (what) {
            case 0:
                return bench.glasses();
            case 1:
                return bench.stacks();
            case 2:
                return bench.time();
            case 3:
                return bench.markedTime() == NONE ? NONE : bench.time() - bench.markedTime();
            case 4:
                return bench.eventsEver();
            case 5:
                return bench.eventsListed();
            case 6:
                return bench.turns();
            case 7:
                return bench.taps();
            case 8:
                return history.states();
            case 9:
                return script.length();
            default:
                return BAD;
        }
    }

    public long digest() {
        long h = 139;
        for (int what = 0; what <= 9; what++) {
            h = 31 * h + count(what);
        }
        for (int g = 0; g < bench.glasses(); g++) {
            for (int what = 0; what <= Bench.PROPERTIES; what++) {
                h = 31 * h + glass(g, what);
            }
        }
        for (int i = 0; i < bench.eventsListed(); i++) {
            for (int what = 0; what < Bench.EVENT_PARTS; what++) {
                h = 31 * h + event(i, what);
            }
        }
        Planner plans = readyPlanner();
        for (int span = 1; span <= 20; span++) {
            h = 31 * h + plans.leastCost(span);
        }
        h = 31 * h + Long.bitCount(plans.spansWithin(3));
        for (int i = 0; i < script.length(); i++) {
            h = 31 * h + script.byteAt(i);
        }
        return h;
    }

    /** False, with nothing done, where the script ends ahead of the step. */
    private boolean perform(int letter, int number) {
        if (letter == 't') {
            bench.turnStackOf(number);
            return true;
        }
        if (letter == 'k') {
            bench.tapGlass(number);
            return true;
        }
        int seconds = letter == 'w' ? number : bench.secondsToEvent();
        if (!bench.hasTimeFor(seconds)) {
            return false;
        }
        bench.letPass(seconds);
        return true;
    }

    private Planner readyPlanner() {
        if (planner == null) {
            planner = new Planner();
        }
        planner.lookAt(bench);
        return planner;
    }

    private static boolean isSpan(int span) {
        return span >= 1 && span <= MOST_SPAN;
    }

    /** The place of the bit that has i set bits below it, NONE if there are not so many. */
    private static int bitOf(long bits, int i) {
        int below = 0;
        for (int place = 0; place <= MOST_SPAN; place++) {
            if (((bits >> place) & 1) == 1) {
                if (below == i) {
                    return place;
                }
                below++;
            }
        }
        return NONE;
    }

    /**
     * The glasses, stacks, time, events, mark and numbers of turns and taps. They stand in one row
     * of numbers, so that a state is kept and restored by one copy.
     */
    private static final class Bench {
        static final int MOST_GLASSES = 3;
        static final int MOST_UNITS = 12;
        static final int MOST_GRIP = 9;
        static final int LAST_TIME = 9999;

        static final int PLAIN = 0;
        static final int STICKY = 1;
        static final int LYING = 2;

        static final int RAN_OUT = 0;
        static final int GOT_STUCK = 1;

        /** The properties bear the numbers that glass() gives them. */
        static final int AMOUNT = 0;
        static final int ABOVE = 1;
        static final int KIND = 2;
        static final int GRIP = 3;
        static final int STUCK = 4;
        static final int STACK = 5;
        static final int SECONDS = 6;
        static final int PROPERTIES = 7;

        static final int EVENT_PARTS = 3;
        static final int MOST_EVENTS = 12;

        private static final int EVENTS = PROPERTIES * MOST_GLASSES;
        private static final int GLASSES = EVENTS + EVENT_PARTS * MOST_EVENTS;
        private static final int TIME = GLASSES + 1;
        private static final int MARK = GLASSES + 2;
        private static final int EVENTS_EVER = GLASSES + 3;
        private static final int TURNS = GLASSES + 4;
        private static final int TAPS = GLASSES + 5;
        static final int SIZE = GLASSES + 6;

        private final int[] cells = new int[SIZE];

        Bench() {
            cells[MARK] = NONE;
            renew(MOST_GLASSES);
            fill(0, 3);
            fill(1, 5);
            fill(2, 8);
        }

        void copyTo(int[] row, int at) {
            System.arraycopy(cells, 0, row, at, SIZE);
        }

        void copyFrom(int[] row, int at) {
            System.arraycopy(row, at, cells, 0, SIZE);
        }

        int glasses() {
            return cells[GLASSES];
        }

        boolean has(int g) {
            return g >= 0 && g < glasses();
        }

        int property(int g, int property) {
            return cells[property * MOST_GLASSES + g];
        }

        int time() {
            return cells[TIME];
        }

        int markedTime() {
            return cells[MARK];
        }

        void markTime() {
            cells[MARK] = cells[TIME];
        }

        int turns() {
            return cells[TURNS];
        }

        int taps() {
            return cells[TAPS];
        }

        int eventsEver() {
            return cells[EVENTS_EVER];
        }

        int eventsListed() {
            return Math.min(cells[EVENTS_EVER], MOST_EVENTS);
        }

        /** A part of a listed event, by how many of the list are later. */
        int eventPart(int later, int part) {
            return cells[eventCell(cells[EVENTS_EVER] - 1 - later) + part];
        }

        /** So many plain glasses, each alone; those that were there keep their amounts. */
        void renew(int glasses) {
            int old = cells[GLASSES];
            cells[GLASSES] = glasses;
            for (int g = 0; g < glasses; g++) {
                fill(g, g < old ? property(g, AMOUNT) : 5);
                makeKind(g, PLAIN, 3);
                put(g, STACK, g);
            }
        }

        void fill(int g, int units) {
            put(g, AMOUNT, units);
            put(g, ABOVE, 0);
            free(g);
        }

        void makeKind(int g, int kind, int grip) {
            put(g, KIND, kind);
            put(g, GRIP, grip);
            free(g);
        }

        int stacks() {
            int stacks = 0;
            for (int g = 0; g < glasses(); g++) {
                if (property(g, STACK) == g) {
                    stacks++;
                }
            }
            return stacks;
        }

        int glassesOf(int stack) {
            int members = 0;
            for (int g = 0; g < glasses(); g++) {
                if (property(g, STACK) == stack) {
                    members++;
                }
            }
            return members;
        }

        void join(int stack, int otherStack) {
            int joined = Math.min(stack, otherStack);
            for (int g = 0; g < glasses(); g++) {
                if (property(g, STACK) == stack || property(g, STACK) == otherStack) {
                    put(g, STACK, joined);
                }
            }
        }

        void scatter(int stack) {
            for (int g = 0; g < glasses(); g++) {
                if (property(g, STACK) == stack) {
                    put(g, STACK, g);
                }
            }
        }

        void turnStackOf(int glass) {
            int stack = property(glass, STACK);
            for (int g = 0; g < glasses(); g++) {
                if (property(g, STACK) == stack) {
                    put(g, ABOVE, property(g, AMOUNT) - property(g, ABOVE));
                    free(g);
                }
            }
            cells[TURNS]++;
        }

        void tapGlass(int g) {
            free(g);
            cells[TAPS]++;
        }

        boolean runs(int g) {
            return property(g, ABOVE) > 0 && property(g, KIND) != LYING && property(g, STUCK) == 0;
        }

        boolean hasTimeFor(int seconds) {
            return seconds <= LAST_TIME - cells[TIME];
        }

        /** How many seconds pass up to the end of the first with an event; 0 if no glass runs. */
        int secondsToEvent() {
            int least = 0;
            for (int g = 0; g < glasses(); g++) {
                if (runs(g) && (least == 0 || secondsToEventOf(g) < least)) {
                    least = secondsToEventOf(g);
                }
            }
            return least;
        }

        /** Returns the number of events in the seconds. */
        int letPass(int seconds) {
            int before = cells[EVENTS_EVER];
            int left = seconds;
            // Once no glass runs, none will: the seconds that are left need no steps.
            while (left > 0 && secondsToEvent() > 0) {
                passSecond();
                left--;
            }
            cells[TIME] += left;
            return cells[EVENTS_EVER] - before;
        }

        private void passSecond() {
            cells[TIME]++;
            for (int g = 0; g < glasses(); g++) {
                if (runs(g)) {
                    sink(g);
                }
            }
        }

        private void sink(int g) {
            put(g, ABOVE, property(g, ABOVE) - 1);
            boolean sticky = property(g, KIND) == STICKY;
            if (sticky) {
                put(g, SECONDS, property(g, SECONDS) + 1);
            }
            if (property(g, ABOVE) == 0) {
                write(g, RAN_OUT);
            } else if (sticky && property(g, SECONDS) >= property(g, GRIP)) {
                put(g, STUCK, 1);
                write(g, GOT_STUCK);
            }
        }

        private int secondsToEventOf(int g) {
            int above = property(g, ABOVE);
            if (property(g, KIND) != STICKY) {
                return above;
            }
            return Math.min(above, property(g, GRIP) - property(g, SECONDS));
        }

        private void write(int g, int kind) {
            int cell = eventCell(cells[EVENTS_EVER]);
            cells[cell] = cells[TIME];
            cells[cell + 1] = g;
            cells[cell + 2] = kind;
            cells[EVENTS_EVER]++;
        }

        private void free(int g) {
            put(g, STUCK, 0);
            put(g, SECONDS, 0);
        }

        private void put(int g, int property, int value) {
            cells[property * MOST_GLASSES + g] = value;
        }

        /** A new event takes the place of the oldest one when the list is full. */
        private static int eventCell(int event) {
            return EVENTS + (event % MOST_EVENTS) * EVENT_PARTS;
        }
    }

    /** The states before the latest changes, in a ring: a new one takes the oldest one's place. */
    private static final class History {
        private static final int MOST_STATES = 8;

        private final int[] rows = new int[MOST_STATES * Bench.SIZE];
        private int states;
        private int next;

        int states() {
            return states;
        }

        void keep(Bench bench) {
            bench.copyTo(rows, next * Bench.SIZE);
            next = (next + 1) % MOST_STATES;
            states = Math.min(states + 1, MOST_STATES);
        }

        boolean restore(Bench bench) {
            if (states == 0) {
                return false;
            }
            states--;
            next = (next + MOST_STATES - 1) % MOST_STATES;
            bench.copyFrom(rows, next * Bench.SIZE);
            return true;
        }
    }

    /**
     * The text, and the steps that it says. What a number repeats is written out when its
     * parentheses close, so that the steps can be done one behind the other.
     */
    private static final class Script {
        private static final int LONGEST = 60;
        private static final int MOST_STEPS = 100;
        private static final int LEVELS = 2;

        private final int[] bytes = new int[LONGEST];
        private int length;

        private final int[] letters = new int[MOST_STEPS];
        private final int[] numbers = new int[MOST_STEPS];
        private int steps;

        private int at;
        private int fault;
        private int glasses;

        int length() {
            return length;
        }

        int byteAt(int i) {
            return i >= 0 && i < length ? bytes[i] : NONE;
        }

        boolean append(int letter) {
            if (length >= LONGEST) {
                return false;
            }
            bytes[length] = letter;
            length++;
            return true;
        }

        int clear() {
            int before = length;
            length = 0;
            return before;
        }

        int steps() {
            return steps;
        }

        int letter(int step) {
            return step >= 0 && step < steps ? letters[step] : NONE;
        }

        int number(int step) {
            return step >= 0 && step < steps ? numbers[step] : NONE;
        }

        /** Returns the fault, NONE if there is none: then the steps are those of the text. */
        int read(int glassesThere) {
            glasses = glassesThere;
            at = 0;
            fault = NONE;
            steps = 0;
            readSteps(0);
            if (fault == NONE && peek() != NONE) {
                fault = at;
            }
            return fault;
        }

        /** Ends at what can't begin a step: a parenthesis that closes, the end, or a fault. */
        private void readSteps(int level) {
            for (int i = 0; i < LONGEST && fault == NONE && isStepAhead(); i++) {
                readStep(level);
                expect(';');
            }
        }

        private boolean isStepAhead() {
            int letter = peek();
            return letter == 't' || letter == 'k' || letter == 'w' || letter == 'e'
                    || isDigit(letter);
        }

        private void readStep(int level) {
            int letter = peek();
            if (isDigit(letter)) {
                readRepeat(level);
                return;
            }
            at++;
            int number = 0;
            if (letter == 'w') {
                number = readNumber(99);
            } else if (letter != 'e') {
                number = readGlass();
            }
            add(letter, number);
        }

        private void readRepeat(int level) {
            int times = readNumber(20);
            if (fault == NONE && level == LEVELS) {
                peek();
                fault = at;
            }
            expect('(');
            int first = steps;
            if (fault == NONE) {
                readSteps(level + 1);
            }
            expect(')');
            repeat(first, times);
        }

        /** Writes the steps from one on again; steps that are too many would not be done anyway. */
        private void repeat(int first, int times) {
            int behind = steps;
            for (int time = 1; time < times; time++) {
                for (int step = first; step < behind; step++) {
                    add(letters[step], numbers[step]);
                }
            }
        }

        private void add(int letter, int number) {
            if (steps < MOST_STEPS) {
                letters[steps] = letter;
                numbers[steps] = number;
                steps++;
            }
        }

        private int readGlass() {
            int digit = peek();
            if (!isDigit(digit) || digit - '0' >= glasses) {
                fault = at;
                return 0;
            }
            at++;
            return digit - '0';
        }

        private int readNumber(int most) {
            if (!isDigit(peek())) {
                fault = at;
                return 0;
            }
            int first = at;
            int number = byteAt(at) - '0';
            at++;
            // No blanks are passed over here: the digits of a number stand side by side.
            if (isDigit(byteAt(at))) {
                number = 10 * number + byteAt(at) - '0';
                at++;
            }
            if (number < 1 || number > most) {
                fault = first;
            }
            return number;
        }

        private void expect(int sign) {
            if (fault != NONE) {
                return;
            }
            if (peek() == sign) {
                at++;
            } else {
                fault = at;
            }
        }

        /** Passes over blanks and returns the byte behind them, NONE at the end of the text. */
        private int peek() {
            while (at < length && bytes[at] == ' ') {
                at++;
            }
            return at < length ? bytes[at] : NONE;
        }

        private static boolean isDigit(int letter) {
            return letter >= '0' && letter <= '9';
        }
    }

    /**
     * Finds the best plans. A place is a moment at which a glass has run out, told by the sand
     * above in each glass, or the start; a way leads from a place, by the turn of a set of stacks,
     * to the next moment. For each place and each cost one number holds all spans that can be
     * measured from there within that cost, a bit for each: a way moves the spans of the place that
     * it leads to up by its seconds, so all spans are found at once.
     */
    private static final class Planner {
        private static final int SETS = 1 << Bench.MOST_GLASSES;
        /** A glass takes four bits in the number that tells the sand above. */
        private static final int BITS = 4;
        private static final int LOWEST = 15;
        private static final int SANDS = 1 << (BITS * Bench.MOST_GLASSES);
        /** All sands with up to 12 units above in each of three glasses but those without a 0. */
        private static final int MOST_MOMENTS = 13 * 13 * 13 - 12 * 12 * 12;
        private static final int START = MOST_MOMENTS;
        /** No plan has more than a step a second, or turns more than three stacks in one. */
        private static final int MOST_COST = MOST_SPAN * Bench.MOST_GLASSES;
        /** The smaller the glasses, the more costs and the fewer moments: no bench needs more. */
        private static final int MOST_COSTS = 25;
        /** For each set how many stacks are in it. */
        private static final int[] STACKS_IN = {0, 1, 1, 2, 1, 2, 2, 3};
        private static final long ALL_SPANS = (1L << (MOST_SPAN + 1)) - 2;

        /** What the tables were made for; they stay while only sand runs or is turned. */
        private int shape = NONE;
        /** The amounts, four bits a glass; 0 for glasses that lie, as nothing depends on them. */
        private int full;
        /** For each set of stacks the bits of the glasses that turn with it. */
        private final int[] turned = new int[SETS];
        /** The stacks that have a glass that doesn't lie; to turn another is of no use. */
        private int usefulSet;

        private final int[] sandOf = new int[MOST_MOMENTS];
        private final int[] momentOf = new int[SANDS];
        private int moments;

        /** For each place and set the moment that the way leads to, and its seconds; 0: no way. */
        private final int[] ways = new int[(MOST_MOMENTS + 1) * SETS];

        /** For each cost, from 0 on, and each moment the spans that can be measured within it. */
        private final long[] spans = new long[MOST_COSTS * MOST_MOMENTS];
        private int costs;
        /** How many of the latest costs have brought no new span. */
        private int idleCosts;

        void lookAt(Bench bench) {
            int seen = shapeOf(bench);
            if (seen != shape) {
                shape = seen;
                full = seen & (SANDS - 1);
                findTurned(bench);
                numberMoments();
                for (int moment = 0; moment < moments; moment++) {
                    findWays(moment, sandOf[moment]);
                }
                costs = 0;
                idleCosts = 0;
            }
            findWays(START, sandAbove(bench));
        }

        /** Returns NONE if no plan comes to its goal. */
        int leastCost(int span) {
            for (int cost = 0; cost <= MOST_COST && findUpTo(cost); cost++) {
                if (isIn(spansFrom(START, cost), span)) {
                    return cost;
                }
            }
            return NONE;
        }

        /** The spans that can be measured within a cost. */
        long spansWithin(int most) {
            return spansFrom(START, findUpTo(most) ? most : costs - 1);
        }

        /** The set, or the seconds, of a step of the best plan; NONE if there is no such step. */
        int stepOf(int span, int step, boolean set) {
            int place = START;
            int left = span;
            int cost = leastCost(span);
            // A step takes a second at least: there are no more steps than the span has seconds.
            for (int i = 0; i < span && left > 0 && cost >= 0; i++) {
                int chosen = leastSet(place, left, cost);
                if (chosen == NONE) {
                    return NONE;
                }
                if (i == step) {
                    return set ? chosen : span - left;
                }
                int way = ways[place * SETS + chosen];
                place = way >> BITS;
                left -= way & LOWEST;
                cost -= STACKS_IN[chosen];
            }
            return NONE;
        }

        /** The least set that a plan for a span within a cost can begin with. */
        private int leastSet(int place, int span, int cost) {
            for (int set = 0; set < SETS; set++) {
                if (isIn(spansBy(ways[place * SETS + set], cost - STACKS_IN[set]), span)) {
                    return set;
                }
            }
            return NONE;
        }

        /** The spans that can be measured from a place within a cost. */
        private long spansFrom(int place, int cost) {
            long found = 0;
            for (int set = 0; set < SETS; set++) {
                found |= spansBy(ways[place * SETS + set], cost - STACKS_IN[set]);
            }
            return found & ALL_SPANS;
        }

        /** The spans that a way begins, with so much cost left behind it. */
        private long spansBy(int way, int cost) {
            if (way == 0 || cost < 0) {
                return 0;
            }
            // At the way's end a glass runs out, so the way itself measures a span: the bit 1.
            return (spans[cost * moments + (way >> BITS)] | 1L) << (way & LOWEST);
        }

        /** Finds the spans up to a cost; false if they are the same as those of a lower one. */
        private boolean findUpTo(int cost) {
            // A cost's spans follow from those of the three below it and its own ways without a
            // turn, so three costs that bring nothing are followed by such costs alone.
            for (; costs <= cost && idleCosts < Bench.MOST_GLASSES && hasRoom(); costs++) {
                idleCosts = findSpans(costs) ? 0 : idleCosts + 1;
            }
            return cost < costs;
        }

        private boolean hasRoom() {
            return (costs + 1) * moments <= spans.length;
        }

        /** Finds the spans of a cost; false if they are those of the cost below it. */
        private boolean findSpans(int cost) {
            boolean differs = cost == 0;
            // Ascending: a way without a turn leads to a moment with less sand above, a lower one.
            for (int moment = 0; moment < moments; moment++) {
                long found = spansFrom(moment, cost);
                spans[cost * moments + moment] = found;
                if (cost > 0 && found != spans[(cost - 1) * moments + moment]) {
                    differs = true;
                }
            }
            return differs;
        }

        private void findTurned(Bench bench) {
            Arrays.fill(turned, 0);
            usefulSet = 0;
            for (int g = 0; g < bench.glasses(); g++) {
                if (unitsOf(full, g) > 0) {
                    int stack = 1 << bench.property(g, Bench.STACK);
                    usefulSet |= stack;
                    for (int set = 0; set < SETS; set++) {
                        if ((set & stack) != 0) {
                            turned[set] |= LOWEST << (BITS * g);
                        }
                    }
                }
            }
        }

        private void numberMoments() {
            moments = 0;
            for (int sand = 0; sand <= full; sand++) {
                if (isMoment(sand) && moments < MOST_MOMENTS) {
                    sandOf[moments] = sand;
                    momentOf[sand] = moments;
                    moments++;
                }
            }
        }

        /** Whether a glass can just have run out. */
        private boolean isMoment(int sand) {
            boolean empty = false;
            for (int g = 0; g < Bench.MOST_GLASSES; g++) {
                int above = unitsOf(sand, g);
                int amount = unitsOf(full, g);
                if (above > amount) {
                    return false;
                }
                empty |= above == 0 && amount > 0;
            }
            return empty;
        }

        private void findWays(int place, int sand) {
            for (int set = 0; set < SETS; set++) {
                ways[place * SETS + set] = (set & ~usefulSet) == 0 ? wayFrom(sand, set) : 0;
            }
        }

        private int wayFrom(int sand, int set) {
            int glasses = turned[set];
            int above = (sand & ~glasses) + (full & glasses) - (sand & glasses);
            int seconds = secondsToRunOut(above);
            return seconds == 0 ? 0 : (momentOf[behind(above, seconds)] << BITS) | seconds;
        }

        /** How many seconds pass until a glass runs out; 0 if none runs. */
        private static int secondsToRunOut(int sand) {
            int least = 0;
            for (int g = 0; g < Bench.MOST_GLASSES; g++) {
                int above = unitsOf(sand, g);
                if (above > 0 && (least == 0 || above < least)) {
                    least = above;
                }
            }
            return least;
        }

        private static int behind(int sand, int seconds) {
            int left = 0;
            for (int g = 0; g < Bench.MOST_GLASSES; g++) {
                left |= Math.max(0, unitsOf(sand, g) - seconds) << (BITS * g);
            }
            return left;
        }

        private static int unitsOf(int sand, int g) {
            return (sand >> (BITS * g)) & LOWEST;
        }

        private static boolean isIn(long found, int span) {
            return ((found >> span) & 1) == 1;
        }

        private static int sandAbove(Bench bench) {
            int sand = 0;
            for (int g = 0; g < bench.glasses(); g++) {
                if (bench.property(g, Bench.KIND) != Bench.LYING) {
                    sand |= bench.property(g, Bench.ABOVE) << (BITS * g);
                }
            }
            return sand;
        }

        /** The amounts of the glasses that don't lie, and above them the stacks. */
        private static int shapeOf(Bench bench) {
            int seen = 0;
            for (int g = 0; g < bench.glasses(); g++) {
                if (bench.property(g, Bench.KIND) != Bench.LYING) {
                    seen |= bench.property(g, Bench.AMOUNT) << (BITS * g);
                    seen |= bench.property(g, Bench.STACK) << (BITS * (Bench.MOST_GLASSES + g));
                }
            }
            return seen;
        }
    }
}

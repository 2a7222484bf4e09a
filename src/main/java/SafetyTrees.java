/** Trees of causes, their cuts and chances; classes of hazards; goals traced to parts and tests. */
public final class SafetyTrees {
    private static final int UNKNOWN = -1;
    private static final int OUTSIDE = -2;
    private static final int WRONG_STATE = -3;
    private static final int NO_ROOM = -4;

    private static final int MAX_EVENTS = 12;
    private static final int MAX_GATES = 20;
    private static final int MAX_NODES = MAX_EVENTS + MAX_GATES;
    private static final int MAX_BELOW = 10;
    private static final int MAX_CAUSES = 4;
    private static final int MAX_DOWN = 10;
    private static final int MAX_EXACT = 14;

    private static final int AND = 0;
    private static final int OR = 1;
    private static final int VOTES = 2;

    /** A set of events is an int of 12 bits; a table holds a bit for each set, 64 to a word. */
    private static final int SETS = 1 << MAX_EVENTS;
    private static final int WORD_BITS = 6;
    private static final int WORDS = SETS >> WORD_BITS;

    /** No set of cuts of which none holds another is larger: 12 over 6 (Sperner). */
    private static final int MAX_CUTS = 924;

    /** The least number that every down from 1 to 10 divides. */
    private static final long PARTS = 2520;

    private static final int MAX_CLASS = 4;
    private static final int MAX_GOALS = 30;
    private static final int MAX_ROWS = 100;
    private static final int MAX_PART = 50;
    private static final int MAX_TEST = 50;

    private final Nodes nodes;
    private final Truth truth;
    private final Causes causes;
    private final Cuts told;
    private final Odds odds;
    private final Goals goals;
    private final Fraction share;

    public SafetyTrees() {
        nodes = new Nodes();
        truth = new Truth(nodes);
        causes = new Causes();
        told = new Cuts();
        odds = new Odds(nodes, truth, causes);
        goals = new Goals();
        share = new Fraction();
    }

    public int event(long up, long down) {
        if (!isDown(down) || up < 0) {
            return OUTSIDE;
        }
        if (nodes.events >= MAX_EVENTS) {
            return NO_ROOM;
        }
        if (up > down) {
            return 0;
        }
        int number = nodes.addEvent(up, down);
        truth.fillEvent(number);
        return number;
    }

    public int gate(int kind, int n) {
        if (!isKind(kind, n)) {
            return OUTSIDE;
        }
        if (nodes.gates >= MAX_GATES) {
            return NO_ROOM;
        }
        return nodes.addGate(kind, n);
    }

    public int below(int gate, int of) {
        if (!nodes.isGate(gate) || !nodes.isNode(of)) {
            return UNKNOWN;
        }
        if (nodes.isBelow(of, gate)) {
            return WRONG_STATE;
        }
        if (nodes.belowCount[gate] >= MAX_BELOW) {
            return NO_ROOM;
        }
        if (of == gate || nodes.isUnder(gate, of)) {
            return 0;
        }
        nodes.putBelow(of, gate);
        return 1;
    }

    public int cuts(int gate, long steps) {
        if (!nodes.isGate(gate) || steps < 0) {
            return OUTSIDE;
        }
        int within = nodes.eventsUnder[gate];
        if (countOfSets(within) > steps) {
            told.clear();
            return -1;
        }
        truth.fillGates(gate);
        return told.tell(truth, gate, within);
    }

    public int cut(int i, int k) {
        int index = told.eventIndex(i, k);
        return index < 0 || index >= MAX_EVENTS ? 0 : nodes.eventNumber[index];
    }

    public long chance(int gate, int side) {
        if (!nodes.isGate(gate)) {
            return UNKNOWN;
        }
        odds.work(gate);
        return odds.result.side(side);
    }

    public boolean exact() {
        return odds.isExact;
    }

    public int common(int event, int other, long up, long down) {
        if (!nodes.isEvent(event) || !nodes.isEvent(other)) {
            return UNKNOWN;
        }
        if (event == other || !isDown(down) || up < 0 || up > down) {
            return OUTSIDE;
        }
        if (causes.count >= MAX_CAUSES) {
            return NO_ROOM;
        }
        return causes.add(nodes.eventsUnder[event] | nodes.eventsUnder[other], up, down);
    }

    public int grade(int a, int b, int c) {
        if (!isWithin(a, 0, 3) || !isWithin(b, 0, 4) || !isWithin(c, 0, 3)) {
            return OUTSIDE;
        }
        int sum = a + b + c;
        if (a == 0 || b == 0 || c == 0 || sum < 7) {
            return 0;
        }
        return sum - 6;
    }

    public int goal(int cls) {
        if (!isWithin(cls, 0, MAX_CLASS)) {
            return OUTSIDE;
        }
        if (goals.count >= MAX_GOALS) {
            return NO_ROOM;
        }
        return goals.add(cls);
    }

    public int trace(int goal, int part, int test) {
        if (!isWithin(goal, 1, goals.count)) {
            return UNKNOWN;
        }
        if (!isWithin(part, 1, MAX_PART) || !isWithin(test, 0, MAX_TEST)) {
            return OUTSIDE;
        }
        if (goals.hasRow(goal, part, test)) {
            return WRONG_STATE;
        }
        if (goals.rows >= MAX_ROWS) {
            return NO_ROOM;
        }
        return goals.addRow(goal, part, test);
    }

    public int open(int i) {
        return i < 0 ? 0 : goals.findOpen(i);
    }

    public long cover(int part, int side) throws ArithmeticException {
        int all = goals.rowsOfPart(part);
        if (all == 0) {
            throw new ArithmeticException("the part has no row");
        }
        share.set(goals.testedRowsOfPart(part), all);
        return share.side(side);
    }

    public int plain(int gate) {
        if (!nodes.isGate(gate)) {
            return OUTSIDE;
        }
        truth.fillGates(gate);
        return truth.countTrue(gate, nodes.eventsUnder[gate]);
    }

    private static boolean isWithin(int value, int least, int most) {
        return value >= least && value <= most;
    }

    private static boolean isDown(long down) {
        return down >= 1 && down <= MAX_DOWN;
    }

    private static boolean isKind(int kind, int n) {
        if (kind == VOTES) {
            return isWithin(n, 1, MAX_BELOW);
        }
        return (kind == AND || kind == OR) && n == 0;
    }

    /** How many sets can be made of the events within. */
    private static int countOfSets(int within) {
        return 1 << Integer.bitCount(within & (SETS - 1));
    }

    /** The next larger set of the events within; after the last one, the empty set. */
    private static int nextSet(int set, int within) {
        return (set - within) & within;
    }

    /** A fraction in lowest terms. */
    private static final class Fraction {
        private long above = 0;
        private long beneath = 1;

        void set(long newAbove, long newBeneath) {
            long divisor = commonDivisor(newAbove, newBeneath);
            if (divisor > 0) {
                above = newAbove / divisor;
                beneath = newBeneath / divisor;
            }
        }

        long side(int which) {
            return which == 0 ? above : beneath;
        }

        private static long commonDivisor(long first, long second) {
            long a = first;
            long b = second;
            // Euclid needs fewer than 100 steps for any two longs.
            for (int step = 0; step < 100 && b != 0; step++) {
                long rest = a % b;
                a = b;
                b = rest;
            }
            return a;
        }
    }

    /** Events and gates, and what is below them; rows are by the node's number, place 0 is unused. */
    private static final class Nodes {
        private static final int EVENT = -1;

        private int count = 0;
        private int events = 0;
        private int gates = 0;
        private final int[] kind = new int[MAX_NODES + 1];
        private final int[] votes = new int[MAX_NODES + 1];
        private final long[] up = new long[MAX_NODES + 1];
        private final long[] down = new long[MAX_NODES + 1];
        private final int[] eventNumber = new int[MAX_EVENTS];
        private final int[][] belowRow = new int[MAX_NODES + 1][MAX_BELOW];
        private final int[] belowCount = new int[MAX_NODES + 1];
        /** The nodes under each node, as bits by their numbers. */
        private final long[] nodesUnder = new long[MAX_NODES + 1];
        /** The set of events under each node; of an event the event itself, so that it can be passed up. */
        private final int[] eventsUnder = new int[MAX_NODES + 1];
        private final int[] line = new int[MAX_GATES];

        boolean isNode(int number) {
            return number >= 1 && number <= count;
        }

        boolean isEvent(int number) {
            return isNode(number) && kind[number] == EVENT;
        }

        boolean isGate(int number) {
            return isNode(number) && kind[number] != EVENT;
        }

        int addEvent(long newUp, long newDown) {
            count++;
            kind[count] = EVENT;
            up[count] = newUp;
            down[count] = newDown;
            eventNumber[events] = count;
            eventsUnder[count] = eventBit(events);
            events++;
            return count;
        }

        int addGate(int newKind, int n) {
            count++;
            kind[count] = newKind;
            votes[count] = n;
            gates++;
            return count;
        }

        /** Earlier events get higher bits: of two sets of one size the larger int then has the lesser events. */
        static int eventBit(int index) {
            return 1 << (MAX_EVENTS - 1 - index);
        }

        boolean isBelow(int node, int gate) {
            for (int i = 0; i < belowCount[gate]; i++) {
                if (belowRow[gate][i] == node) {
                    return true;
                }
            }
            return false;
        }

        boolean isUnder(int node, int gate) {
            return (nodesUnder[gate] & (1L << node)) != 0;
        }

        void putBelow(int node, int gate) {
            belowRow[gate][belowCount[gate]] = node;
            belowCount[gate]++;
            long newNodes = nodesUnder[node] | (1L << node);
            for (int above = 1; above <= count; above++) {
                if (above == gate || isUnder(gate, above)) {
                    nodesUnder[above] |= newNodes;
                    eventsUnder[above] |= eventsUnder[node];
                }
            }
        }

        /**
         * Puts a gate and the gates under it in line, and tells how many they are. A gate has all that
         * its gates below have under them, and those gates too: so by this count it comes after them.
         */
        int lineUp(int gate) {
            int length = 0;
            for (int size = 0; size <= MAX_NODES; size++) {
                for (int node = 1; node <= count; node++) {
                    boolean asked = node == gate || isUnder(node, gate);
                    if (asked && isGate(node) && Long.bitCount(nodesUnder[node]) == size && length < MAX_GATES) {
                        line[length] = node;
                        length++;
                    }
                }
            }
            return length;
        }
    }

    /** For each node a table that tells of every set of events whether it makes the node true. */
    private static final class Truth {
        /** Word by bit 0 .. 5: the places in a word whose number has this bit. */
        private static final long[] PATTERNS = {
            0xAAAAAAAAAAAAAAAAL, 0xCCCCCCCCCCCCCCCCL, 0xF0F0F0F0F0F0F0F0L,
            0xFF00FF00FF00FF00L, 0xFFFF0000FFFF0000L, 0xFFFFFFFF00000000L
        };

        private final Nodes nodes;
        private final long[][] table = new long[MAX_NODES + 1][WORDS];

        Truth(Nodes nodes) {
            this.nodes = nodes;
        }

        void fillEvent(int event) {
            int set = nodes.eventsUnder[event];
            for (int word = 0; word < WORDS; word++) {
                table[event][word] = eventWord(set, word);
            }
        }

        private static long eventWord(int set, int word) {
            for (int bit = 0; bit < WORD_BITS; bit++) {
                if (set == 1 << bit) {
                    return PATTERNS[bit];
                }
            }
            return (word & (set >> WORD_BITS)) != 0 ? -1L : 0L;
        }

        /** Fills the tables of a gate and the gates under it, as far as sets of its events reach. */
        void fillGates(int gate) {
            int reach = nodes.eventsUnder[gate] >> WORD_BITS;
            int length = nodes.lineUp(gate);
            for (int i = 0; i < length; i++) {
                fillGate(nodes.line[i], reach);
            }
        }

        private void fillGate(int gate, int reach) {
            for (int word = 0; word < WORDS; word++) {
                if ((word & reach) == word) {
                    table[gate][word] = gateWord(gate, word);
                }
            }
        }

        private long gateWord(int gate, int word) {
            switch (nodes.kind[gate]) {
                case AND:
                    return allOf(gate, word);
                case OR:
                    return anyOf(gate, word);
                default:
                    return votesOf(gate, word);
            }
        }

        private long allOf(int gate, int word) {
            long all = -1L;
            for (int i = 0; i < nodes.belowCount[gate]; i++) {
                all &= table[nodes.belowRow[gate][i]][word];
            }
            return all;
        }

        private long anyOf(int gate, int word) {
            long any = 0L;
            for (int i = 0; i < nodes.belowCount[gate]; i++) {
                any |= table[nodes.belowRow[gate][i]][word];
            }
            return any;
        }

        /** Counts the votes of 64 sets at once: the count of each stands across four words. */
        private long votesOf(int gate, int word) {
            long ones = 0L;
            long twos = 0L;
            long fours = 0L;
            long eights = 0L;
            for (int i = 0; i < nodes.belowCount[gate]; i++) {
                long vote = table[nodes.belowRow[gate][i]][word];
                long toTwos = ones & vote;
                long toFours = twos & toTwos;
                long toEights = fours & toFours;
                ones ^= vote;
                twos ^= toTwos;
                fours ^= toFours;
                eights ^= toEights;
            }
            int n = nodes.votes[gate];
            long enough = withDigit(n, ones, -1L);
            enough = withDigit(n >> 1, twos, enough);
            enough = withDigit(n >> 2, fours, enough);
            return withDigit(n >> 3, eights, enough);
        }

        /** Whether counts are enough, once a higher digit is looked at: only where digits are alike do lower ones tell. */
        private static long withDigit(int n, long digit, long enough) {
            return (n & 1) != 0 ? digit & enough : digit | enough;
        }

        boolean isTrue(int gate, int set) {
            int word = (set >> WORD_BITS) & (WORDS - 1);
            return ((table[gate][word] >>> (set & 63)) & 1L) != 0;
        }

        int countTrue(int gate, int within) {
            int sets = countOfSets(within);
            int set = 0;
            int found = 0;
            for (int step = 0; step < sets; step++) {
                if (isTrue(gate, set)) {
                    found++;
                }
                set = nextSet(set, within);
            }
            return found;
        }

        /** More events never make a gate false, so it is enough to leave out one at a time. */
        boolean isMinimal(int gate, int set) {
            if (!isTrue(gate, set)) {
                return false;
            }
            for (int bit = 1; bit < SETS; bit <<= 1) {
                if ((set & bit) != 0 && isTrue(gate, set ^ bit)) {
                    return false;
                }
            }
            return true;
        }
    }

    /** Common causes, each with the set of its two events. */
    private static final class Causes {
        private int count = 0;
        private final int[] pair = new int[MAX_CAUSES];
        private final long[] up = new long[MAX_CAUSES];
        private final long[] down = new long[MAX_CAUSES];

        int add(int newPair, long newUp, long newDown) {
            pair[count] = newPair;
            up[count] = newUp;
            down[count] = newDown;
            count++;
            return count;
        }

        boolean touches(int cause, int events) {
            return (pair[cause] & events) != 0;
        }

        int countTouching(int events) {
            int found = 0;
            for (int cause = 0; cause < count; cause++) {
                if (touches(cause, events)) {
                    found++;
                }
            }
            return found;
        }
    }

    /** The cuts that were told last, as sets of events; they stay as they were when trees grow. */
    private static final class Cuts {
        private int count = 0;
        private final int[] sets = new int[MAX_CUTS];
        private final int[] found = new int[MAX_CUTS];

        void clear() {
            count = 0;
        }

        int tell(Truth truth, int gate, int within) {
            int length = find(truth, gate, within);
            count = 0;
            for (int size = 0; size <= MAX_EVENTS; size++) {
                takeOfSize(size, length);
            }
            return count;
        }

        /** Finds the minimal cuts, the larger ints first, which is the order among cuts of one size. */
        private int find(Truth truth, int gate, int within) {
            int length = 0;
            int steps = countOfSets(within);
            int set = within;
            for (int step = 0; step < steps; step++) {
                if (truth.isMinimal(gate, set) && length < MAX_CUTS) {
                    found[length] = set;
                    length++;
                }
                set = (set - 1) & within;
            }
            return length;
        }

        private void takeOfSize(int size, int length) {
            for (int i = 0; i < length; i++) {
                if (Integer.bitCount(found[i]) == size && count < MAX_CUTS) {
                    sets[count] = found[i];
                    count++;
                }
            }
        }

        /** The index of the k-th event of the i-th cut, -1 if there is none. */
        int eventIndex(int i, int k) {
            if (i < 0 || i >= count || k < 0) {
                return -1;
            }
            int left = k;
            for (int index = 0; index < MAX_EVENTS; index++) {
                if ((sets[i] & Nodes.eventBit(index)) != 0) {
                    if (left == 0) {
                        return index;
                    }
                    left--;
                }
            }
            return -1;
        }
    }

    /** The chance of a gate: exact, or a bound where there are too many causes. */
    private static final class Odds {
        private final Nodes nodes;
        private final Truth truth;
        private final Causes causes;
        private final Fraction result = new Fraction();
        private boolean isExact = false;
        private final long[] weights = new long[SETS];
        private final long[] bounds = new long[MAX_NODES + 1];

        Odds(Nodes nodes, Truth truth, Causes causes) {
            this.nodes = nodes;
            this.truth = truth;
            this.causes = causes;
        }

        void work(int gate) {
            int events = nodes.eventsUnder[gate];
            isExact = Integer.bitCount(events) + causes.countTouching(events) <= MAX_EXACT;
            if (isExact) {
                workExactly(gate, events);
            } else {
                workBound(gate);
            }
        }

        /** At most 14 downs of at most 10 each: nothing here comes above 10 to the 14th. */
        private void workExactly(int gate, int events) {
            truth.fillGates(gate);
            weighSets(gate, events);
            long whole = 1;
            // Events leave the sets as they are folded in, so the causes that bring them come first.
            for (int cause = 0; cause < causes.count; cause++) {
                if (causes.touches(cause, events)) {
                    mix(events, causes.pair[cause] & events, causes.up[cause], causes.down[cause]);
                    whole *= causes.down[cause];
                }
            }
            int left = events;
            for (int index = 0; index < nodes.events; index++) {
                int number = nodes.eventNumber[index];
                int bit = nodes.eventsUnder[number];
                if ((events & bit) != 0) {
                    left ^= bit;
                    mix(left, bit, nodes.up[number], nodes.down[number]);
                    whole *= nodes.down[number];
                }
            }
            result.set(weights[0], whole);
        }

        private void weighSets(int gate, int within) {
            int sets = countOfSets(within);
            int set = 0;
            for (int step = 0; step < sets; step++) {
                weights[set] = truth.isTrue(gate, set) ? 1 : 0;
                set = nextSet(set, within);
            }
        }

        /**
         * The weight of each set becomes what it is when the added events may come to it by a chance.
         * Sets go upwards: one with the added events is read before it is changed.
         */
        private void mix(int within, int added, long up, long down) {
            int sets = countOfSets(within);
            int set = 0;
            for (int step = 0; step < sets; step++) {
                weights[set] = (down - up) * weights[set] + up * weights[set | added];
                set = nextSet(set, within);
            }
        }

        private void workBound(int gate) {
            for (int index = 0; index < nodes.events; index++) {
                int number = nodes.eventNumber[index];
                bounds[number] = eventBound(number);
            }
            int length = nodes.lineUp(gate);
            for (int i = 0; i < length; i++) {
                bounds[nodes.line[i]] = gateBound(nodes.line[i]);
            }
            result.set(bounds[gate], PARTS);
        }

        private long eventBound(int event) {
            long sum = inParts(nodes.up[event], nodes.down[event]);
            for (int cause = 0; cause < causes.count; cause++) {
                if (causes.touches(cause, nodes.eventsUnder[event])) {
                    sum += inParts(causes.up[cause], causes.down[cause]);
                }
            }
            return Math.min(sum, PARTS);
        }

        private static long inParts(long up, long down) {
            return down < 1 ? 0 : up * (PARTS / down);
        }

        private long gateBound(int gate) {
            long least = PARTS;
            long sum = 0;
            for (int i = 0; i < nodes.belowCount[gate]; i++) {
                long bound = bounds[nodes.belowRow[gate][i]];
                least = Math.min(least, bound);
                sum += bound;
            }
            if (nodes.kind[gate] == AND) {
                return least;
            }
            long n = nodes.votes[gate];
            if (nodes.kind[gate] == VOTES && n > 0) {
                sum = (sum + n - 1) / n;
            }
            return Math.min(sum, PARTS);
        }
    }

    /** Goals by their numbers (place 0 is unused), and the rows that trace them. */
    private static final class Goals {
        private int count = 0;
        private int rows = 0;
        private final int[] classOf = new int[MAX_GOALS + 1];
        private final int[] goalOf = new int[MAX_ROWS];
        private final int[] partOf = new int[MAX_ROWS];
        private final int[] testOf = new int[MAX_ROWS];

        int add(int cls) {
            count++;
            classOf[count] = cls;
            return count;
        }

        int addRow(int goal, int part, int test) {
            goalOf[rows] = goal;
            partOf[rows] = part;
            testOf[rows] = test;
            rows++;
            return rows;
        }

        boolean hasRow(int goal, int part, int test) {
            for (int row = 0; row < rows; row++) {
                if (goalOf[row] == goal && partOf[row] == part && testOf[row] == test) {
                    return true;
                }
            }
            return false;
        }

        int rowsOfPart(int part) {
            int found = 0;
            for (int row = 0; row < rows; row++) {
                if (partOf[row] == part) {
                    found++;
                }
            }
            return found;
        }

        int testedRowsOfPart(int part) {
            int found = 0;
            for (int row = 0; row < rows; row++) {
                if (partOf[row] == part && testOf[row] != 0) {
                    found++;
                }
            }
            return found;
        }

        /** The i-th that is open: a goal's number, a part's number made negative, or 0. */
        int findOpen(int i) {
            int left = i;
            for (int goal = 1; goal <= count; goal++) {
                if (isGoalOpen(goal)) {
                    if (left == 0) {
                        return goal;
                    }
                    left--;
                }
            }
            for (int part = 1; part <= MAX_PART; part++) {
                if (isPartOpen(part)) {
                    if (left == 0) {
                        return -part;
                    }
                    left--;
                }
            }
            return 0;
        }

        private boolean isGoalOpen(int goal) {
            if (classOf[goal] == 0) {
                return false;
            }
            for (int row = 0; row < rows; row++) {
                if (goalOf[row] == goal && testOf[row] != 0) {
                    return false;
                }
            }
            return true;
        }

        private boolean isPartOpen(int part) {
            return rowsOfPart(part) > 0 && testedRowsOfPart(part) == 0;
        }
    }
}

/** Boundaries of minimal cuts: promises 5 and 6, and their terms. */
public final class CutBoundaries extends Checks {
    public static void main(String[] args) {
        sentence("cuts: -1 if 2^m is above the steps", CutBoundaries::stepsForEachSize);
        sentence("cuts: -1, none are told then", CutBoundaries::noneToldAfterTooFewSteps);
        sentence("cuts: steps are longs", CutBoundaries::stepsBeyondAnInt);
        sentence("cuts: m EVENTS UNDER it, each once, with or without a cut", CutBoundaries::eventsThatCount);
        sentence("cuts: -2 there is no gate (what was told stays)", CutBoundaries::cutsOfNoGate);
        sentence("cuts: -2 steps are below 0 (what was told stays)", CutBoundaries::stepsBelowZero);
        sentence("cuts: -2 comes first", CutBoundaries::refusedBeforeTooFewSteps);
        sentence("cuts: which are the ones told then", CutBoundaries::toldInTheirTurn);
        sentence("CUT: the empty set", CutBoundaries::emptyCut);
        sentence("CUT: no set at all", CutBoundaries::noCut);
        sentence("MINIMAL if no set of fewer of them does", CutBoundaries::fewestEvents);
        sentence("MINIMAL CUTS know no chances", CutBoundaries::chancesDoNotCount);
        sentence("numbered by how many they have", CutBoundaries::smallerOnesFirst);
        sentence("then by their EVENTS, the least ones first", CutBoundaries::leastOnesFirst);
        sentence("the less at the first place where they differ", CutBoundaries::firstPlaceThatDiffers);
        sentence("cuts: the most that there can be", CutBoundaries::mostCuts);
        sentence("cut: 0 if there is none, before cuts are told", CutBoundaries::nothingTold);
        sentence("cut: the i-th (from 0)", CutBoundaries::placesOfCuts);
        sentence("cut: EVENT k (from 0, by numbers)", CutBoundaries::placesInCuts);
        end();
    }

    private static void stepsForEachSize() {
        SafetyTrees x = withEvents(12);
        int low = x.gate(OR, 0);
        int high = x.gate(OR, 0);
        int top = gateOver(x, OR, 0, low, high);
        for (int m = 0; m <= 12; m++) {
            long sets = 1L << m;
            due("m " + m + ", a step short", x.cuts(top, sets - 1), -1);
            due("m " + m + ", none told", x.cut(0, 0), 0);
            due("m " + m + ", as many steps", x.cuts(top, sets), m);
            due("m " + m + ", the last one told", x.cut(m - 1, 0), m);
            due("m " + m + ", a step more", x.cuts(top, sets + 1), m);
            x.below(m < 6 ? low : high, m + 1);
        }
    }

    private static void noneToldAfterTooFewSteps() {
        SafetyTrees x = withEvents(3);
        int gate = gateOver(x, OR, 0, 1, 2, 3);
        int sure = x.gate(AND, 0);
        due("told", x.cuts(gate, 8), 3);
        due("a step short", x.cuts(gate, 7), -1);
        dueNoneTold("after -1", x);
        due("told again", x.cuts(gate, 8), 3);
        due("another gate, no steps", x.cuts(sure, 0), -1);
        dueNoneTold("after -1 of another", x);
        due("told once more", x.cuts(gate, 8), 3);
        dueCut("told once more", x, 0, 1);
        dueCut("told once more", x, 2, 3);
    }

    private static void stepsBeyondAnInt() {
        SafetyTrees x = withEvents(12);
        int top = gateOverAll(x, AND, 1, 12);
        long[] enough = {
            4096, Integer.MAX_VALUE, Integer.MAX_VALUE + 1L, wrapsTo(0), wrapsTo(-1), wrapsTo(1), Long.MAX_VALUE
        };
        for (long steps : enough) {
            due("steps " + steps, x.cuts(top, steps), 1);
            due("told by steps " + steps, x.cut(0, 11), 12);
        }
        for (long steps : new long[] {0, 1, 12, 4095}) {
            due("steps " + steps, x.cuts(top, steps), -1);
        }
    }

    private static void eventsThatCount() {
        SafetyTrees x = withEvents(4);
        int low = gateOver(x, OR, 0, 1, 2);
        int other = gateOver(x, AND, 0, 1, 2);
        int top = gateOver(x, OR, 0, low, other, 1, 2);
        due("2 events by many ways, 3 steps", x.cuts(top, 3), -1);
        due("2 events by many ways, 4 steps", x.cuts(top, 4), 2);
        int never = gateOver(x, VOTES, 10, 3, 4);
        int wide = gateOver(x, OR, 0, never, 1);
        due("3 events, 2 of them in no cut, 7 steps", x.cuts(wide, 7), -1);
        due("3 events, 2 of them in no cut, 8 steps", x.cuts(wide, 8), 1);
        dueCut("3 events", x, 0, 1);
        due("events beside it do not count", x.cuts(gateOver(x, OR, 0, 4), 2), 1);
    }

    private static void cutsOfNoGate() {
        SafetyTrees x = withEvents(3);
        int gate = gateOver(x, VOTES, 2, 1, 2, 3);
        due("told", x.cuts(gate, 8), 3);
        for (int number : noneOf(gate)) {
            due("cuts(" + number + ", 8)", x.cuts(number, 8), -2);
        }
        due("an event", x.cuts(1, 8), -2);
        due("the event before the gate", x.cuts(3, 8), -2);
        dueCut("stays", x, 0, 1, 2);
        dueCut("stays", x, 1, 1, 3);
        dueCut("stays", x, 2, 2, 3);
        due("stays, no more", x.cut(3, 0), 0);
    }

    private static void stepsBelowZero() {
        SafetyTrees x = withEvents(3);
        int gate = gateOver(x, VOTES, 2, 1, 2, 3);
        due("told", x.cuts(gate, 8), 3);
        long[] below = {-1, -8, -wrapsTo(-8), -wrapsTo(0), Integer.MIN_VALUE, Long.MIN_VALUE, Long.MIN_VALUE + 8};
        for (long steps : below) {
            due("steps " + steps, x.cuts(gate, steps), -2);
        }
        dueCut("stays", x, 0, 1, 2);
        dueCut("stays", x, 2, 2, 3);
        due("steps 0", x.cuts(gate, 0), -1);
        dueNoneTold("steps 0", x);
        due("steps -1, none told", x.cuts(gate, -1), -2);
        dueNoneTold("none told stays none", x);
    }

    private static void refusedBeforeTooFewSteps() {
        SafetyTrees x = withEvents(1);
        int gate = gateOver(x, OR, 0, 1);
        due("told", x.cuts(gate, 2), 1);
        due("no gate, steps -1", x.cuts(0, -1), -2);
        due("an event, steps 0", x.cuts(1, 0), -2);
        due("no gate, steps 0", x.cuts(gate + 1, 0), -2);
        due("2^1 above steps -1", x.cuts(gate, -1), -2);
        dueCut("stays", x, 0, 1);
    }

    private static void toldInTheirTurn() {
        SafetyTrees x = withEvents(3);
        int many = gateOver(x, OR, 0, 1, 2, 3);
        int one = gateOver(x, AND, 0, 2, 3);
        due("many", x.cuts(many, 8), 3);
        due("one", x.cuts(one, 4), 1);
        dueCut("one", x, 0, 2, 3);
        due("no second one", x.cut(1, 0), 0);
        due("many again", x.cuts(many, 8), 3);
        dueCut("many again", x, 0, 1);
        x.below(one, 1);
        x.plain(one);
        x.chance(one, 0);
        dueCut("other calls tell none", x, 0, 1);
        dueCut("other calls tell none", x, 2, 3);
    }

    private static void emptyCut() {
        SafetyTrees x = withEvents(2);
        int sure = x.gate(AND, 0);
        due("AND of none, 1 step", x.cuts(sure, 1), 1);
        dueCut("AND of none", x, 0);
        due("AND of none, no second one", x.cut(1, 0), 0);
        due("AND of none, no steps", x.cuts(sure, 0), -1);
        due("OR with it, one cut alone", x.cuts(gateOver(x, OR, 0, sure, 1, 2), 4), 1);
        dueCut("OR with it", x, 0);
        due("VOTES with enough of it", x.cuts(gateOver(x, VOTES, 1, 1, 2, sure), 4), 1);
        dueCut("VOTES with enough of it", x, 0);
        due("VOTES with one too few", x.cuts(gateOver(x, VOTES, 2, 1, 2, sure), 4), 2);
        dueCut("VOTES with one too few", x, 0, 1);
    }

    private static void noCut() {
        SafetyTrees x = withEvents(3);
        int told = gateOver(x, OR, 0, 1, 2);
        int never = x.gate(OR, 0);
        int[] gates = {
            never, x.gate(VOTES, 1), gateOver(x, VOTES, 4, 1, 2, 3), gateOver(x, AND, 0, 1, 2, 3, never)
        };
        for (int gate : gates) {
            due("told before", x.cuts(told, 4), 2);
            due("cuts of gate " + gate, x.cuts(gate, 8), 0);
            dueNoneTold("gate " + gate, x);
        }
        due("as many votes as are below", x.cuts(gateOver(x, VOTES, 3, 1, 2, 3), 8), 1);
        dueCut("as many votes as are below", x, 0, 1, 2, 3);
    }

    private static void fewestEvents() {
        SafetyTrees x = withEvents(4);
        int three = gateOver(x, AND, 0, 1, 2, 3);
        int two = gateOver(x, AND, 0, 2, 1);
        int same = gateOver(x, VOTES, 2, 1, 2);
        due("one within another, one twice", x.cuts(gateOver(x, OR, 0, three, two, same), 8), 1);
        dueCut("one within another", x, 0, 1, 2);
        int left = gateOver(x, OR, 0, 1, 2);
        int right = gateOver(x, OR, 0, 1, 3, 4);
        due("one event for both", x.cuts(gateOver(x, AND, 0, left, right), 16), 3);
        dueCut("one event for both", x, 0, 1);
        dueCut("one event for both", x, 1, 2, 3);
        dueCut("one event for both", x, 2, 2, 4);
    }

    private static void chancesDoNotCount() {
        SafetyTrees x = new SafetyTrees();
        x.event(0, 1);
        x.event(1, 1);
        x.event(0, 10);
        int gate = gateOver(x, VOTES, 2, 1, 2, 3);
        x.common(1, 2, 1, 1);
        due("never, always, never", x.cuts(gate, 8), 3);
        dueCut("never and always", x, 0, 1, 2);
        dueCut("never and never", x, 1, 1, 3);
        dueCut("always and never", x, 2, 2, 3);
    }

    private static void smallerOnesFirst() {
        SafetyTrees x = withEvents(10);
        int four = gateOver(x, AND, 0, 1, 2, 3, 4);
        int three = gateOver(x, AND, 0, 2, 3, 5);
        int two = gateOver(x, AND, 0, 8, 9);
        int top = gateOver(x, OR, 0, four, three, two, 10);
        due("cuts", x.cuts(top, 1024), 4);
        dueCut("of one", x, 0, 10);
        dueCut("of two", x, 1, 8, 9);
        dueCut("of three", x, 2, 2, 3, 5);
        dueCut("of four", x, 3, 1, 2, 3, 4);
    }

    /** Numbers of one and of two digits, with gates between them. */
    private static void leastOnesFirst() {
        SafetyTrees x = new SafetyTrees();
        int[] numbers = new int[10];
        for (int i = 0; i < 10; i++) {
            x.gate(OR, 0);
            numbers[i] = x.event(1, 2);
        }
        due("the last number", numbers[9], 20);
        int pairs = x.gate(VOTES, 2);
        for (int i = 9; i >= 0; i--) {
            due("from the last on", x.below(pairs, numbers[i]), 1);
        }
        due("pairs", x.cuts(pairs, 1024), 45);
        int place = 0;
        for (int a = 0; a < 10; a++) {
            for (int b = a + 1; b < 10; b++) {
                dueCut("pairs", x, place, numbers[a], numbers[b]);
                place++;
            }
        }
        due("pairs, no more", x.cut(45, 0), 0);
    }

    private static void firstPlaceThatDiffers() {
        SafetyTrees x = withEvents(12);
        int[] sets = {
            gateOver(x, AND, 0, 7, 8, 9), gateOver(x, AND, 0, 3, 4, 5), gateOver(x, AND, 0, 1, 11, 12),
            gateOver(x, AND, 0, 2, 3, 4), gateOver(x, AND, 0, 1, 2, 12), gateOver(x, AND, 0, 1, 3, 4),
            gateOver(x, AND, 0, 1, 2, 10), gateOver(x, AND, 0, 6, 11, 12)
        };
        int top = gateOver(x, OR, 0, sets);
        due("cuts", x.cuts(top, 4096), 8);
        dueCut("the third differs", x, 0, 1, 2, 10);
        dueCut("the third differs", x, 1, 1, 2, 12);
        dueCut("the second differs", x, 2, 1, 3, 4);
        dueCut("the second differs", x, 3, 1, 11, 12);
        dueCut("the first differs", x, 4, 2, 3, 4);
        dueCut("the first differs", x, 5, 3, 4, 5);
        dueCut("the first differs", x, 6, 6, 11, 12);
        dueCut("the first differs", x, 7, 7, 8, 9);
    }

    /** 6 of 12 events: 924 cuts of 6, the most that 12 events can have. */
    private static void mostCuts() {
        SafetyTrees x = withEvents(12);
        int top = sixOfTwelve(x);
        due("6 of 12, a step short", x.cuts(top, 4095), -1);
        due("6 of 12", x.cuts(top, 4096), 924);
        dueCut("the first", x, 0, 1, 2, 3, 4, 5, 6);
        dueCut("the last with event 1", x, 461, 1, 8, 9, 10, 11, 12);
        dueCut("the first without", x, 462, 2, 3, 4, 5, 6, 7);
        dueCut("the last but one", x, 922, 6, 8, 9, 10, 11, 12);
        dueCut("the last", x, 923, 7, 8, 9, 10, 11, 12);
        due("none after it", x.cut(924, 0), 0);
        due("none far after it", x.cut(4095, 0), 0);
        due("told again", x.cuts(top, 4096), 924);
        dueCut("the last again", x, 923, 7, 8, 9, 10, 11, 12);
    }

    private static int sixOfTwelve(SafetyTrees x) {
        int top = x.gate(OR, 0);
        for (int n = 1; n <= 5; n++) {
            int low = gateOver(x, VOTES, n, 1, 2, 3, 4, 5, 6);
            int high = gateOver(x, VOTES, 6 - n, 7, 8, 9, 10, 11, 12);
            due("in the top", x.below(top, gateOver(x, AND, 0, low, high)), 1);
        }
        due("all of 1 .. 6", x.below(top, gateOver(x, AND, 0, 1, 2, 3, 4, 5, 6)), 1);
        due("all of 7 .. 12", x.below(top, gateOver(x, AND, 0, 7, 8, 9, 10, 11, 12)), 1);
        return top;
    }

    private static void nothingTold() {
        SafetyTrees x = withEvents(2);
        dueNoneTold("no gate yet", x);
        int gate = gateOver(x, AND, 0, 1, 2);
        x.plain(gate);
        x.chance(gate, 0);
        dueNoneTold("no cuts() yet", x);
        due("a refused cuts()", x.cuts(gate, -1), -2);
        dueNoneTold("after a refused one", x);
    }

    private static void placesOfCuts() {
        SafetyTrees x = withEvents(3);
        due("told", x.cuts(gateOver(x, OR, 0, 1, 2, 3), 8), 3);
        due("the first", x.cut(0, 0), 1);
        due("the last", x.cut(2, 0), 3);
        int[] outside = {-1, -2, -3, 3, 4, 256, 65536, Integer.MIN_VALUE, Integer.MIN_VALUE + 1, Integer.MAX_VALUE};
        for (int i : outside) {
            due("i " + i, x.cut(i, 0), 0);
            due("i and k " + i, x.cut(i, i), 0);
        }
    }

    private static void placesInCuts() {
        SafetyTrees x = withEvents(12);
        int top = gateOverAll(x, AND, 1, 12);
        due("a cut of all", x.cuts(top, 4096), 1);
        for (int k = 0; k < 12; k++) {
            due("k " + k, x.cut(0, k), k + 1);
        }
        int[] outside = {
            -1, -2, -12, -32, 12, 13, 31, 32, 33, 64, 256, 65536,
            Integer.MIN_VALUE, Integer.MIN_VALUE + 1, Integer.MAX_VALUE
        };
        for (int k : outside) {
            due("k " + k, x.cut(0, k), 0);
        }
        due("some of them", x.cuts(gateOver(x, AND, 0, 11, 3, 7), 8), 1);
        dueCut("by numbers", x, 0, 3, 7, 11);
    }
}

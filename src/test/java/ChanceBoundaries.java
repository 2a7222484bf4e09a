/** Boundaries of chances, exact or as bounds, and of common causes: promises 7 to 9, and their terms. */
public final class ChanceBoundaries extends Checks {
    /** Together 2519 of 2520 parts. */
    private static final long[][] JUST_BELOW_ONE = {{1, 5}, {2, 7}, {1, 6}, {1, 8}, {2, 9}};

    public static void main(String[] args) {
        sentence("chance: -1 there is no gate", ChanceBoundaries::chanceOfNoGate);
        sentence("chance: side 0 what is above, others what is below", ChanceBoundaries::sidesOfAChance);
        sentence("chance: in lowest terms", ChanceBoundaries::lowestTerms);
        sentence("chance: of gates with nothing below", ChanceBoundaries::chanceOfNone);
        sentence("chance: the largest exact fraction", ChanceBoundaries::largestFractions);

        sentence("exact if at most 14 together: 12 events", ChanceBoundaries::twelveEventsAndCauses);
        sentence("exact if at most 14 together: 11 events", ChanceBoundaries::elevenEventsAndCauses);
        sentence("exact if at most 14 together: 10 events", ChanceBoundaries::tenEventsAndCauses);
        sentence("COMMON CAUSES with one of these", ChanceBoundaries::causesOfOneOfThese);
        sentence("EVENTS UNDER it count, whatever their chance", ChanceBoundaries::whatCountsForExact);

        sentence("bound of an EVENT: together, 2520 at most", ChanceBoundaries::boundOfAnEvent);
        sentence("bound of an EVENT: its causes, whichever other EVENT they have", ChanceBoundaries::boundOfEventsBeside);
        sentence("bound of AND: the least BELOW (2520 of none)", ChanceBoundaries::boundOfAnd);
        sentence("bound of OR: all BELOW together, 2520 at most", ChanceBoundaries::boundOfOr);
        sentence("bound of VOTES: divided by n, upwards", ChanceBoundaries::boundOfVotes);
        sentence("bound of VOTES: 2520 at most", ChanceBoundaries::boundOfManyVotes);
        sentence("bound: of what is BELOW, each time", ChanceBoundaries::boundOfSharedNodes);

        sentence("exact: false before one", ChanceBoundaries::exactBeforeAChance);
        sentence("exact: the last chance() of a gate that there is", ChanceBoundaries::exactAfterRefusals);

        sentence("common: -1 there is no such event", ChanceBoundaries::commonOfNoEvent);
        sentence("common: -2 they are one", ChanceBoundaries::commonOfOne);
        sentence("common: -2 down is not 1 .. 10", ChanceBoundaries::downOfACause);
        sentence("common: -2 up not 0 .. down", ChanceBoundaries::upOfACause);
        sentence("common: -4 there are 4", ChanceBoundaries::fourCauses);
        sentence("common: -1, then -2, then -4", ChanceBoundaries::commonRefusalsInOrder);
        sentence("when it happens, both EVENTS do", ChanceBoundaries::causesThatAreSureOrNever);
        sentence("independently of all others", ChanceBoundaries::causesOfOnePair);
        end();
    }

    private static void chanceOfNoGate() {
        SafetyTrees x = withEvents(2);
        int gate = gateOver(x, OR, 0, 1, 2);
        for (int number : noneOf(gate)) {
            due("chance(" + number + ", 0)", x.chance(number, 0), -1);
            due("chance(" + number + ", 1)", x.chance(number, 1), -1);
        }
        due("an event, above", x.chance(1, 0), -1);
        due("an event, beneath", x.chance(1, 1), -1);
        due("the event before the gate", x.chance(2, 0), -1);
        dueChance("the gate", x, gate, 3, 4);
    }

    private static void sidesOfAChance() {
        SafetyTrees x = new SafetyTrees();
        x.event(2, 9);
        int gate = gateOver(x, OR, 0, 1);
        due("side 0", x.chance(gate, 0), 2);
        for (int side : new int[] {1, -1, 2, 256, 65536, Integer.MIN_VALUE, Integer.MAX_VALUE}) {
            due("side " + side, x.chance(gate, side), 9);
        }
        due("side 0 again", x.chance(gate, 0), 2);
    }

    private static void lowestTerms() {
        for (int down = 1; down <= 10; down++) {
            for (int up = 0; up <= down; up++) {
                SafetyTrees x = new SafetyTrees();
                x.event(up, down);
                int divisor = divisor(up, down);
                dueChance(up + " / " + down, x, gateOver(x, AND, 0, 1), up / divisor, down / divisor);
            }
        }
        SafetyTrees x = new SafetyTrees();
        x.event(0, 10);
        x.event(0, 9);
        x.event(6, 6);
        x.event(4, 10);
        x.event(5, 8);
        dueChance("0 of many", x, gateOver(x, OR, 0, 1, 2), 0, 1);
        dueChance("all of many", x, gateOver(x, OR, 0, 1, 3, 4), 1, 1);
        dueChance("4/10 * 5/8", x, gateOver(x, AND, 0, 4, 5), 1, 4);
        dueChance("1 - 6/10 * 3/8", x, gateOver(x, OR, 0, 4, 5), 31, 40);
    }

    private static int divisor(int up, int down) {
        int found = 1;
        for (int d = 1; d <= down; d++) {
            found = up % d == 0 && down % d == 0 ? d : found;
        }
        return found;
    }

    private static void chanceOfNone() {
        SafetyTrees x = new SafetyTrees();
        dueChance("AND of none", x, x.gate(AND, 0), 1, 1);
        dueExact("AND of none", x, true);
        dueChance("OR of none", x, x.gate(OR, 0), 0, 1);
        dueExact("OR of none", x, true);
        dueChance("VOTES of none", x, x.gate(VOTES, 1), 0, 1);
        dueChance("AND of OR of none", x, gateOver(x, AND, 0, 2), 0, 1);
        dueChance("OR of AND of none", x, gateOver(x, OR, 0, 1), 1, 1);
    }

    private static void largestFractions() {
        SafetyTrees any = ofTwelve(9, 10);
        int some = gateOverAll(any, OR, 1, 12);
        any.common(1, 2, 9, 10);
        any.common(11, 12, 9, 10);
        dueChance("1 - 0.1 to the 14th", any, some, 99999999999999L, 100000000000000L);
        dueExact("14 together", any, true);
        SafetyTrees all = ofTwelve(1, 10);
        int every = gateOverAll(all, AND, 1, 12);
        dueChance("0.1 to the 12th", all, every, 1, 1000000000000L);
        all.common(1, 2, 1, 10);
        all.common(11, 12, 1, 10);
        // a pair: 0.1 + 0.9 * 0.01
        dueChance("0.109 squared, 0.1 to the 8th", all, every, 11881, 100000000000000L);
    }

    private static SafetyTrees ofTwelve(long up, long down) {
        SafetyTrees x = new SafetyTrees();
        for (int i = 1; i <= 12; i++) {
            due("event " + i, x.event(up, down), i);
        }
        return x;
    }

    private static void twelveEventsAndCauses() {
        SafetyTrees x = withEvents(12);
        int top = gateOverAll(x, AND, 1, 12);
        int part = gateOver(x, AND, 0, 1, 2);
        dueChance("12", x, top, 1, 4096);
        dueExact("12", x, true);
        x.common(1, 2, 1, 2);
        dueChance("13: 5/8 for a pair", x, top, 5, 8192);
        dueExact("13", x, true);
        x.common(3, 4, 1, 2);
        dueChance("14: 5/8 for two pairs", x, top, 25, 16384);
        dueExact("14", x, true);
        x.common(5, 6, 1, 2);
        dueChance("15: the least", x, top, 1, 2);
        dueExact("15", x, false);
        dueChance("3 of these", x, part, 5, 8);
        dueExact("3 of these", x, true);
        x.common(7, 8, 1, 2);
        dueChance("16: the least", x, top, 1, 2);
        dueExact("16", x, false);
    }

    private static void elevenEventsAndCauses() {
        SafetyTrees x = withEvents(12);
        int top = gateOverAll(x, AND, 1, 11);
        x.common(1, 2, 1, 2);
        x.common(3, 4, 1, 2);
        x.common(5, 6, 1, 2);
        dueChance("14: 5/8 for three pairs", x, top, 125, 16384);
        dueExact("14", x, true);
        x.common(7, 8, 1, 2);
        dueChance("15: the least", x, top, 1, 2);
        dueExact("15", x, false);
    }

    private static void tenEventsAndCauses() {
        SafetyTrees x = withEvents(12);
        int top = gateOver(x, AND, 0, 1, 2, 3, 4, 5, 6, 7, 8, 9, 10);
        x.common(1, 2, 1, 2);
        x.common(3, 4, 1, 2);
        x.common(5, 6, 1, 2);
        x.common(7, 8, 1, 2);
        dueChance("14: 5/8 for four pairs", x, top, 625, 16384);
        dueExact("14", x, true);
        due("the 11th event", x.below(gateOver(x, AND, 0, top), 11), 1);
        dueChance("15: the least", x, 14, 1, 2);
        dueExact("15", x, false);
        dueChance("14 still", x, top, 625, 16384);
        dueExact("14 still", x, true);
    }

    private static void causesOfOneOfThese() {
        SafetyTrees x = withEvents(12);
        int top = gateOverAll(x, AND, 1, 11);
        x.common(1, 12, 1, 2);
        x.common(12, 2, 1, 2);
        x.common(3, 12, 1, 2);
        dueChance("14: 3/4 for three", x, top, 27, 16384);
        dueExact("14, each with one of these", x, true);
        x.common(12, 4, 1, 2);
        dueChance("15: the least", x, top, 1, 2);
        dueExact("15, each with one of these", x, false);
        int pair = gateOver(x, OR, 0, 5, 6);
        dueChance("causes with none of these", x, pair, 3, 4);
        dueExact("causes with none of these", x, true);
        dueChance("all four have event 12: 1 - 1/2 to the 5th", x, gateOver(x, OR, 0, 12), 31, 32);
    }

    private static void whatCountsForExact() {
        SafetyTrees x = ofTwelve(0, 1);
        int low = gateOver(x, OR, 0, 1, 2, 3, 4, 5, 6, 7);
        int high = gateOver(x, OR, 0, 6, 7, 8, 9, 10, 11, 12);
        int top = gateOver(x, OR, 0, low, high, 1, 12);
        x.common(1, 2, 0, 1);
        x.common(1, 2, 0, 1);
        dueChance("14, none of which happens, some by two ways", x, top, 0, 1);
        dueExact("14", x, true);
        x.common(1, 2, 0, 1);
        dueChance("15, none of which happens", x, top, 0, 1);
        dueExact("15", x, false);
        dueChance("7 events and 3 causes of 12 and 3", x, low, 0, 1);
        dueExact("7 events and 3 causes", x, true);
    }

    /**
     * A bound that can be seen: an AND over a gate and the sure events beside it. Events are first the
     * given ones, then sure ones up to 12; three causes that never happen make 15 together.
     */
    private static void dueBound(String what, long[][] chances, int kind, int n, long parts) {
        SafetyTrees x = new SafetyTrees();
        int gate = x.gate(kind, n);
        int sure = x.gate(AND, 0);
        int surest = x.gate(AND, 0);
        for (int i = 0; i < 12; i++) {
            boolean given = i < chances.length;
            int event = given ? x.event(chances[i][0], chances[i][1]) : x.event(1, 1);
            due(what + ": below", x.below(given ? gate : i < 8 ? sure : surest, event), 1);
        }
        for (int i = 0; i < 3; i++) {
            due(what + ": a cause", x.common(14, 15, 0, 1), i + 1);
        }
        dueParts(what, x, gateOver(x, AND, 0, gate, sure, surest), parts);
    }

    private static void dueParts(String what, SafetyTrees x, int gate, long parts) {
        int divisor = divisor((int) parts, 2520);
        dueChance(what, x, gate, parts / divisor, 2520 / divisor);
        dueExact(what, x, false);
    }

    /** Event 1 of a chance, its causes together with event 2, which is sure as all others are. */
    private static void dueEventBound(String what, long up, long down, long[][] causes, long parts) {
        SafetyTrees x = new SafetyTrees();
        x.event(up, down);
        for (int i = 2; i <= 12; i++) {
            x.event(1, 1);
        }
        int top = gateOverAll(x, AND, 1, 12);
        for (long[] cause : causes) {
            x.common(1, 2, cause[0], cause[1]);
        }
        dueParts(what, x, top, parts);
    }

    private static void boundOfAnEvent() {
        long[][] never = {{0, 1}, {0, 10}, {0, 3}};
        dueEventBound("nothing", 0, 1, never, 0);
        dueEventBound("its own", 3, 7, never, 1080);
        dueEventBound("its own, all", 1, 1, never, 2520);
        for (int down = 1; down <= 10; down++) {
            dueEventBound("1 / " + down, 1, down, never, 2520 / down);
            dueEventBound("a cause of 1 / " + down, 0, 5, new long[][] {{0, 1}, {0, 1}, {1, down}}, 2520 / down);
        }
        dueEventBound("three causes", 1, 10, new long[][] {{1, 9}, {1, 8}, {1, 7}}, 1207);
        dueEventBound("four causes, 2519", 1, 5, new long[][] {{2, 7}, {1, 6}, {1, 8}, {2, 9}}, 2519);
        dueEventBound("just 2520", 1, 2, new long[][] {{1, 3}, {1, 6}, {0, 1}}, 2520);
        dueEventBound("2772 are 2520", 1, 2, new long[][] {{1, 2}, {1, 10}, {0, 1}}, 2520);
        dueEventBound("5 times all are 2520", 1, 1, new long[][] {{1, 1}, {9, 9}, {10, 10}, {1, 1}}, 2520);
        dueHalfOfEventBound("2519 by 2", 1, 5, new long[][] {{2, 7}, {1, 6}, {1, 8}, {2, 9}}, 1260);
        dueHalfOfEventBound("2520 by 2", 1, 2, new long[][] {{1, 3}, {1, 6}, {0, 1}}, 1260);
        dueHalfOfEventBound("2520 for 2772, by 2", 1, 2, new long[][] {{1, 2}, {1, 10}, {0, 1}}, 1260);
        dueHalfOfEventBound("2520 for 5 times all, by 2", 1, 1, new long[][] {{1, 1}, {1, 1}, {1, 1}, {1, 1}}, 1260);
    }

    /** Above a VOTES of 2 it shows whether an event is 2520 at most: an AND alone is never more. */
    private static void dueHalfOfEventBound(String what, long up, long down, long[][] causes, long parts) {
        SafetyTrees x = new SafetyTrees();
        x.event(up, down);
        for (int i = 2; i <= 12; i++) {
            x.event(1, 1);
        }
        int others = gateOverAll(x, AND, 2, 12);
        int half = gateOver(x, VOTES, 2, 1);
        for (long[] cause : causes) {
            x.common(1, 2, cause[0], cause[1]);
        }
        dueParts(what, x, gateOver(x, AND, 0, half, others), parts);
    }

    private static void boundOfEventsBeside() {
        SafetyTrees all = ofTwelve(0, 1);
        all.common(11, 12, 1, 10);
        all.common(12, 1, 1, 9);
        all.common(2, 3, 0, 1);
        dueParts("252 + 532 + 280", all, gateOverAll(all, OR, 1, 12), 1064);
        SafetyTrees eleven = ofTwelve(0, 1);
        eleven.common(1, 12, 1, 10);
        eleven.common(12, 2, 1, 9);
        eleven.common(12, 11, 1, 8);
        eleven.common(1, 2, 0, 1);
        dueParts("252 + 280 + 315, their other event is not UNDER", eleven, gateOverAll(eleven, OR, 1, 11), 847);
    }

    private static void boundOfAnd() {
        long[][] three = {{3, 4}, {1, 2}, {2, 3}};
        dueBound("the least of three", three, AND, 0, 1260);
        dueBound("the least of one", new long[][] {{1, 10}}, AND, 0, 252);
        dueBound("the least is nothing", new long[][] {{1, 1}, {0, 1}}, AND, 0, 0);
        dueBound("the least is all", new long[][] {{1, 1}, {2, 2}}, AND, 0, 2520);
        SafetyTrees x = ofTwelve(0, 1);
        for (int i = 0; i < 3; i++) {
            x.common(1, 2, 0, 1);
        }
        int nothing = gateOverAll(x, OR, 1, 12);
        int ofNone = x.gate(AND, 0);
        dueParts("OR with an AND of none: 2520", x, gateOver(x, OR, 0, nothing, ofNone), 2520);
        dueParts("2 VOTES with an AND of none: 1260", x, gateOver(x, VOTES, 2, nothing, ofNone), 1260);
        dueParts("AND with an AND of none", x, gateOver(x, AND, 0, nothing, ofNone), 0);
    }

    private static void boundOfOr() {
        dueBound("2519", JUST_BELOW_ONE, OR, 0, 2519);
        dueBound("just 2520", new long[][] {{1, 2}, {1, 3}, {1, 6}}, OR, 0, 2520);
        dueBound("2772 are 2520", new long[][] {{1, 2}, {1, 2}, {1, 10}}, OR, 0, 2520);
        dueBound("one", new long[][] {{1, 9}}, OR, 0, 280);
        dueBound("nothing", new long[][] {{0, 9}, {0, 1}}, OR, 0, 0);
        SafetyTrees x = ofTwelve(1, 1);
        for (int i = 0; i < 3; i++) {
            x.common(1, 2, 0, 1);
        }
        int much = gateOverAll(x, OR, 1, 12);
        int never = x.gate(OR, 0);
        dueParts("many that are sure", x, much, 2520);
        dueParts("2 VOTES of it and an OR of none: 2520 at most before", x, gateOver(x, VOTES, 2, much, never), 1260);
        dueParts("AND of it and an OR of none", x, gateOver(x, AND, 0, much, never), 0);
    }

    private static void boundOfVotes() {
        dueBound("252 by 4, no rest", new long[][] {{1, 10}}, VOTES, 4, 63);
        dueBound("280 by 9, rest 1", new long[][] {{1, 9}}, VOTES, 9, 32);
        dueBound("315 by 4, rest 3", new long[][] {{1, 8}}, VOTES, 4, 79);
        dueBound("nothing by 10", new long[][] {{0, 8}}, VOTES, 10, 0);
        dueBound("VOTES of none", new long[][] {}, VOTES, 1, 0);
        for (int n = 1; n <= 10; n++) {
            dueBound("2519 by " + n, JUST_BELOW_ONE, VOTES, n, n == 1 ? 2519 : 2520 / n);
            dueBound("2520 by " + n, new long[][] {{1, 2}, {1, 2}}, VOTES, n, 2520 / n);
            dueBound("252 by " + n, new long[][] {{1, 10}}, VOTES, n, 252 / n + (252 % n == 0 ? 0 : 1));
        }
    }

    private static void boundOfManyVotes() {
        long[][] sure = {{1, 1}, {1, 1}};
        dueBound("5040 by 1", sure, VOTES, 1, 2520);
        dueBound("5040 by 2", sure, VOTES, 2, 2520);
        dueBound("5040 by 3: together first, then divided", sure, VOTES, 3, 1680);
        long[][] more = {{1, 5}, {2, 7}, {1, 6}, {1, 8}, {2, 9}, {1, 1}};
        dueBound("5039 by 2, upwards", more, VOTES, 2, 2520);
        dueBound("5039 by 1", more, VOTES, 1, 2520);
        dueBound("5039 by 3", more, VOTES, 3, 1680);
        long[][] ten = {{1, 1}, {1, 1}, {1, 1}, {1, 1}, {1, 1}, {1, 1}, {1, 1}, {1, 1}, {1, 1}, {1, 1}};
        dueBound("10 that are sure by 10", ten, VOTES, 10, 2520);
        dueBound("10 that are sure by 9", ten, VOTES, 9, 2520);
        ten[9] = new long[] {0, 1};
        dueBound("9 that are sure by 10", ten, VOTES, 10, 2268);
        SafetyTrees x = ofTwelve(1, 1);
        for (int i = 0; i < 3; i++) {
            x.common(1, 2, 0, 1);
        }
        int all = gateOverAll(x, AND, 1, 12);
        int much = gateOver(x, VOTES, 1, all, 1, 2);
        dueParts("7560 by 1, on top", x, much, 2520);
        dueParts("7560 by 2, on top", x, gateOver(x, VOTES, 2, all, 1, 2), 2520);
        dueParts("7560 by 3, on top", x, gateOver(x, VOTES, 3, all, 1, 2), 2520);
        dueParts("7560 by 4, on top", x, gateOver(x, VOTES, 4, all, 1, 2), 1890);
        dueParts("2520 at most before it is divided again", x, gateOver(x, VOTES, 2, much), 1260);
    }

    private static void boundOfSharedNodes() {
        SafetyTrees x = new SafetyTrees();
        x.event(1, 9);
        for (int i = 2; i <= 12; i++) {
            x.event(0, 1);
        }
        for (int i = 0; i < 3; i++) {
            x.common(2, 3, 0, 1);
        }
        int all = gateOverAll(x, OR, 1, 12);
        int one = gateOver(x, OR, 0, 1);
        dueParts("280", x, all, 280);
        dueParts("280 by two ways", x, gateOver(x, OR, 0, all, 1), 560);
        dueParts("280 by three ways", x, gateOver(x, OR, 0, all, 1, one), 840);
        dueParts("2 VOTES of 280 by three ways", x, gateOver(x, VOTES, 2, all, 1, one), 420);
    }

    private static void exactBeforeAChance() {
        SafetyTrees x = new SafetyTrees();
        dueExact("new", x, false);
        x.event(1, 2);
        int gate = gateOver(x, OR, 0, 1);
        dueExact("a gate", x, false);
        x.chance(1, 0);
        x.chance(0, 0);
        x.chance(gate + 1, 1);
        dueExact("refused ones", x, false);
        x.plain(gate);
        x.cuts(gate, 2);
        dueExact("other calls", x, false);
        x.chance(gate, 1);
        dueExact("one", x, true);
    }

    private static void exactAfterRefusals() {
        SafetyTrees x = withEvents(12);
        int top = gateOverAll(x, OR, 1, 12);
        int one = gateOver(x, OR, 0, 1);
        for (int i = 0; i < 3; i++) {
            x.common(1, 2, 1, 2);
        }
        for (int number : noneOf(one)) {
            x.chance(one, 0);
            x.chance(number, 0);
            dueExact("exact, then no gate " + number, x, true);
            x.chance(top, 0);
            x.chance(number, 0);
            dueExact("a bound, then no gate " + number, x, false);
        }
        x.chance(1, 0);
        dueExact("a bound, then an event", x, false);
        x.chance(one, 5);
        x.chance(1, 0);
        dueExact("exact, then an event", x, true);
        x.chance(top, 1);
        dueExact("side 1", x, false);
    }

    private static void commonOfNoEvent() {
        SafetyTrees x = withEvents(2);
        int gate = x.gate(OR, 0);
        int last = x.event(1, 2);
        for (int number : noneOf(last)) {
            due("common(" + number + ", 1)", x.common(number, 1, 1, 2), -1);
            due("common(1, " + number + ")", x.common(1, number, 1, 2), -1);
            due("common(" + number + ", " + number + ")", x.common(number, number, 1, 2), -1);
        }
        due("a gate and an event", x.common(gate, 1, 1, 2), -1);
        due("an event and a gate", x.common(last, gate, 1, 2), -1);
        due("the first and the last event", x.common(1, last, 1, 2), 1);
        due("the last and the first event", x.common(last, 1, 1, 2), 2);
    }

    private static void commonOfOne() {
        SafetyTrees x = withEvents(12);
        for (int event = 1; event <= 12; event++) {
            due("common(" + event + ", " + event + ")", x.common(event, event, 1, 2), -2);
        }
        due("two", x.common(11, 12, 1, 2), 1);
    }

    private static void downOfACause() {
        SafetyTrees x = withEvents(2);
        int gate = gateOver(x, AND, 0, 1, 2);
        long[] outside = {
            0, 11, -1, -10, wrapsTo(1), wrapsTo(10), -wrapsTo(-1), Integer.MIN_VALUE, Integer.MAX_VALUE,
            Long.MIN_VALUE, Long.MAX_VALUE
        };
        for (long down : outside) {
            due("down " + down, x.common(1, 2, 0, down), -2);
        }
        dueChance("none is there", x, gate, 1, 4);
        due("down 1", x.common(1, 2, 0, 1), 1);
        due("down 10", x.common(1, 2, 1, 10), 2);
        dueChance("1/10 + 9/10 * 1/4", x, gate, 13, 40);
    }

    private static void upOfACause() {
        for (int down = 1; down <= 10; down++) {
            SafetyTrees x = withEvents(2);
            due("up -1 of " + down, x.common(1, 2, -1, down), -2);
            due("one above " + down, x.common(1, 2, down + 1, down), -2);
            due("up 0 of " + down, x.common(1, 2, 0, down), 1);
            due("as much as " + down, x.common(1, 2, down, down), 2);
        }
        SafetyTrees x = withEvents(2);
        int gate = gateOver(x, AND, 0, 1, 2);
        long[] outside = {
            -2, 7, wrapsTo(0), wrapsTo(1), -wrapsTo(-1), Integer.MIN_VALUE, Integer.MAX_VALUE,
            Long.MIN_VALUE, Long.MIN_VALUE + 1, Long.MAX_VALUE
        };
        for (long up : outside) {
            due("up " + up, x.common(1, 2, up, 6), -2);
        }
        dueChance("none is there", x, gate, 1, 4);
    }

    private static void fourCauses() {
        SafetyTrees x = withEvents(4);
        int gate = gateOver(x, AND, 0, 1, 2, 3, 4);
        due("the first", x.common(1, 2, 0, 1), 1);
        due("the second", x.common(1, 2, 0, 1), 2);
        due("the third", x.common(2, 3, 0, 1), 3);
        due("the fourth", x.common(3, 4, 1, 1), 4);
        dueChance("the fourth is there", x, gate, 1, 4);
        due("the fifth", x.common(1, 2, 1, 1), -4);
        due("the fifth again", x.common(3, 4, 0, 1), -4);
        dueChance("the fifth is not", x, gate, 1, 4);
        dueExact("the fifth is not", x, true);
    }

    private static void commonRefusalsInOrder() {
        SafetyTrees x = withEvents(2);
        int gate = x.gate(OR, 0);
        for (int causes = 0; causes <= 4; causes++) {
            due("no event, twice", x.common(9, 9, 1, 2), -1);
            due("a gate, twice", x.common(gate, gate, 1, 2), -1);
            due("no event, down 0", x.common(1, 9, 1, 0), -1);
            due("no event, up above down", x.common(0, 1, 3, 2), -1);
            due("one, down 0", x.common(1, 1, 1, 0), -2);
            due("one", x.common(2, 2, 1, 2), -2);
            due("down 11", x.common(1, 2, 1, 11), -2);
            due("up above down", x.common(1, 2, 3, 2), -2);
            due("up -1", x.common(1, 2, -1, 2), -2);
            due("a good one", x.common(1, 2, 1, 2), causes < 4 ? causes + 1 : -4);
        }
    }

    private static void causesThatAreSureOrNever() {
        SafetyTrees x = new SafetyTrees();
        x.event(0, 1);
        x.event(0, 1);
        x.event(0, 1);
        x.event(1, 1);
        int both = gateOver(x, AND, 0, 1, 2);
        int third = gateOver(x, OR, 0, 3);
        int fourth = gateOver(x, OR, 0, 4);
        x.common(1, 2, 0, 7);
        dueChance("never", x, both, 0, 1);
        x.common(2, 1, 2, 7);
        dueChance("both at once", x, both, 2, 7);
        dueChance("not the third", x, third, 0, 1);
        x.common(3, 4, 3, 4);
        dueChance("the third by its cause alone", x, third, 3, 4);
        dueChance("the fourth is sure anyway", x, fourth, 1, 1);
        x.common(1, 2, 7, 7);
        dueChance("always", x, both, 1, 1);
        dueChance("not the third by that", x, third, 3, 4);
    }

    private static void causesOfOnePair() {
        SafetyTrees x = new SafetyTrees();
        x.event(1, 2);
        x.event(1, 3);
        int both = gateOver(x, AND, 0, 1, 2);
        int one = gateOver(x, OR, 0, 1, 2);
        int first = gateOver(x, OR, 0, 1);
        dueChance("no cause, both", x, both, 1, 6);
        dueChance("no cause, one", x, one, 2, 3);
        x.common(1, 2, 1, 2);
        dueChance("one cause, both", x, both, 7, 12);
        x.common(2, 1, 1, 2);
        x.common(1, 2, 1, 2);
        x.common(2, 1, 1, 2);
        dueChance("four causes, both: 1 - 1/16 * 5/6", x, both, 91, 96);
        dueChance("four causes, one: 1 - 1/16 * 1/3", x, one, 47, 48);
        dueChance("four causes, the first: 1 - 1/16 * 1/2", x, first, 31, 32);
    }
}

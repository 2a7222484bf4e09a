/** Each promise of the document: ordinary inputs, the edges that it names, and wrong inputs. */
public final class PromiseTests extends Checks {
    public static void main(String[] args) {
        sentence("Promise 1: new object holds nothing", PromiseTests::newObjectHoldsNothing);
        sentence("Promise 2: event is numbered or refused", PromiseTests::eventIsNumberedOrRefused);
        sentence("Promise 2: event refusals in order", PromiseTests::eventRefusalsInOrder);
        sentence("Promise 3: gate is numbered or refused", PromiseTests::gateIsNumberedOrRefused);
        sentence("Promise 3: gate refusals in order", PromiseTests::gateRefusalsInOrder);
        sentence("Promise 4: below joins nodes", PromiseTests::belowJoinsNodes);
        sentence("Promise 4: below refuses rings", PromiseTests::belowRefusesRings);
        sentence("Promise 4: below refusals in order", PromiseTests::belowRefusalsInOrder);
        sentence("Promise 5: cuts are minimal and in order", PromiseTests::cutsAreMinimalAndInOrder);
        sentence("Promise 5: cuts keep to steps", PromiseTests::cutsKeepToSteps);
        sentence("Promise 5: cuts of empty gates", PromiseTests::cutsOfEmptyGates);
        sentence("Promise 5: cuts of most kinds", PromiseTests::cutsOfMostKinds);
        sentence("Promise 6: cut answers only what is there", PromiseTests::cutAnswersOnlyWhatIsThere);
        sentence("Promise 5: cuts told stay as they were", PromiseTests::cutsToldStayAsTheyWere);
        sentence("Promise 7: chance is exact and lowest", PromiseTests::chanceIsExactAndLowest);
        sentence("Promise 7: chance shares events", PromiseTests::chanceSharesEvents);
        sentence("Promise 7: chance with common causes", PromiseTests::chanceWithCommonCauses);
        sentence("Promise 7: chance at the exact limit", PromiseTests::chanceAtTheExactLimit);
        sentence("Promise 7: chance as a bound", PromiseTests::chanceAsABound);
        sentence("Promise 7: bound of each kind", PromiseTests::boundOfEachKind);
        sentence("Promise 8: exact tells of the last gate", PromiseTests::exactTellsOfTheLastGate);
        sentence("Promise 9: common is counted or refused", PromiseTests::commonIsCountedOrRefused);
        sentence("Promise 10: grade gives the class", PromiseTests::gradeGivesTheClass);
        sentence("Promise 11: goal is numbered or refused", PromiseTests::goalIsNumberedOrRefused);
        sentence("Promise 12: trace is counted or refused", PromiseTests::traceIsCountedOrRefused);
        sentence("Promise 12: trace refusals in order", PromiseTests::traceRefusalsInOrder);
        sentence("Promise 13: open lists goals then parts", PromiseTests::openListsGoalsThenParts);
        sentence("Promise 14: cover is a share", PromiseTests::coverIsAShare);
        sentence("Promise 15: plain counts sets", PromiseTests::plainCountsSets);
        end();
    }

    private static void dueChance(String what, SafetyTrees x, int gate, long above, long beneath, boolean exact) {
        dueChance(what, x, gate, above, beneath);
        dueExact(what, x, exact);
    }

    private static void newObjectHoldsNothing() {
        SafetyTrees x = new SafetyTrees();
        due("new: below", x.below(1, 1), -1);
        due("new: cuts", x.cuts(1, 4096), -2);
        due("new: cut", x.cut(0, 0), 0);
        due("new: chance", x.chance(1, 0), -1);
        due("new: chance beneath", x.chance(1, 1), -1);
        due("new: exact", x.exact() ? 1 : 0, 0);
        due("new: common", x.common(1, 2, 1, 2), -1);
        due("new: trace", x.trace(1, 1, 1), -1);
        due("new: open", x.open(0), 0);
        due("new: plain", x.plain(1), -2);
        dueNoCover("no rows", x, 1, 0);
        due("new: first event", x.event(1, 2), 1);
        due("new: first goal", x.goal(0), 1);
        due("another object: first event", new SafetyTrees().event(1, 2), 1);
    }

    private static void eventIsNumberedOrRefused() {
        SafetyTrees x = new SafetyTrees();
        due("event(0, 1)", x.event(0, 1), 1);
        due("event(10, 10)", x.event(10, 10), 2);
        due("gate between", x.gate(OR, 0), 3);
        due("event after a gate", x.event(1, 1), 4);
        due("event down 0", x.event(0, 0), -2);
        due("event down 11", x.event(0, 11), -2);
        due("event down -1", x.event(0, -1), -2);
        due("event down least", x.event(0, Long.MIN_VALUE), -2);
        due("event down most", x.event(0, Long.MAX_VALUE), -2);
        due("event down as an int would be 1", x.event(0, (1L << 32) + 1), -2);
        due("event up -1", x.event(-1, 5), -2);
        due("event up least", x.event(Long.MIN_VALUE, 5), -2);
        due("event up above down", x.event(6, 5), 0);
        due("event up most", x.event(Long.MAX_VALUE, 5), 0);
        due("event up as an int would be 1", x.event((1L << 32) + 1, 5), 0);
        due("none of these is there", x.event(1, 2), 5);
    }

    private static void eventRefusalsInOrder() {
        SafetyTrees x = withEvents(12);
        due("event 13", x.event(1, 2), -4);
        due("event 13, up above down", x.event(3, 2), -4);
        due("event 13, down 0", x.event(1, 0), -2);
        due("event 13, up -1", x.event(-1, 2), -2);
        due("gates have their own room", x.gate(AND, 0), 13);
    }

    private static void gateIsNumberedOrRefused() {
        SafetyTrees x = withEvents(1);
        due("gate AND", x.gate(AND, 0), 2);
        due("gate OR", x.gate(OR, 0), 3);
        due("gate VOTES 1", x.gate(VOTES, 1), 4);
        due("gate VOTES 10", x.gate(VOTES, 10), 5);
        due("gate VOTES 0", x.gate(VOTES, 0), -2);
        due("gate VOTES 11", x.gate(VOTES, 11), -2);
        due("gate VOTES -1", x.gate(VOTES, -1), -2);
        due("gate AND 1", x.gate(AND, 1), -2);
        due("gate OR 1", x.gate(OR, 1), -2);
        due("gate OR -1", x.gate(OR, -1), -2);
        due("gate kind 3", x.gate(3, 0), -2);
        due("gate kind 3 of 1", x.gate(3, 1), -2);
        due("gate kind -1", x.gate(-1, 0), -2);
        due("gate kind least", x.gate(Integer.MIN_VALUE, 0), -2);
        due("none of these is there", x.gate(AND, 0), 6);
    }

    private static void gateRefusalsInOrder() {
        SafetyTrees x = new SafetyTrees();
        for (int i = 1; i <= 20; i++) {
            due("gate " + i, x.gate(i % 2, 0), i);
        }
        due("gate 21", x.gate(AND, 0), -4);
        due("gate 21 of no kind", x.gate(3, 0), -2);
        due("gate 21 of wrong votes", x.gate(VOTES, 11), -2);
        due("events have their own room", x.event(1, 2), 21);
    }

    private static void belowJoinsNodes() {
        SafetyTrees x = withEvents(2);
        int low = x.gate(AND, 0);
        int high = x.gate(AND, 0);
        due("a gate below a later one", x.below(high, low), 1);
        due("an event below", x.below(low, 1), 1);
        due("an event under by two ways", x.below(high, 1), 1);
        due("one gate more", x.below(low, 2), 1);
        due("events under come through gates", x.plain(high), 1);
        due("m is 2", x.cuts(high, 3), -1);
        due("m is 2, enough steps", x.cuts(high, 4), 1);
        int top = x.gate(OR, 0);
        due("a later gate below an earlier one", x.below(low, top), 1);
        due("which changes those above", x.plain(high), 0);
    }

    private static void belowRefusesRings() {
        SafetyTrees x = withEvents(1);
        int a = x.gate(OR, 0);
        int b = x.gate(OR, 0);
        int c = x.gate(OR, 0);
        due("a over b", x.below(a, b), 1);
        due("b over c", x.below(b, c), 1);
        due("c over c", x.below(c, c), 0);
        due("c over b", x.below(c, b), 0);
        due("c over a", x.below(c, a), 0);
        due("a ring again, nothing was kept", x.below(c, a), 0);
        due("a over c is none", x.below(a, c), 1);
        due("c over the event", x.below(c, 1), 1);
        due("the trees are as before", x.plain(a), 1);
    }

    private static void belowRefusalsInOrder() {
        SafetyTrees x = withEvents(12);
        int full = gateOver(x, OR, 0, 1, 2, 3, 4, 5, 6, 7, 8, 9, 10);
        int over = gateOver(x, OR, 0, full);
        due("the 11th", x.below(full, 11), -4);
        due("there already, and full", x.below(full, 10), -3);
        due("a ring, and full", x.below(full, over), -4);
        due("itself, and full", x.below(full, full), -4);
        due("no such node, and full", x.below(full, 15), -1);
        due("below an event", x.below(1, 2), -1);
        due("below node 0", x.below(0, 1), -1);
        due("below no node", x.below(15, 1), -1);
        due("node 0", x.below(over, 0), -1);
        due("node -1", x.below(over, -1), -1);
        due("nodes at the ends", x.below(Integer.MIN_VALUE, Integer.MAX_VALUE), -1);
        due("there already", x.below(over, full), -3);
        due("nothing was changed", x.plain(full), 1023);
    }

    private static void cutsAreMinimalAndInOrder() {
        SafetyTrees x = withEvents(5);
        int pairs = gateOver(x, VOTES, 2, 2, 3, 4);
        int both = gateOver(x, AND, 0, 1, 2);
        int top = gateOver(x, OR, 0, pairs, both, 5);
        due("cuts of top", x.cuts(top, 32), 5);
        dueCut("top", x, 0, 5);
        dueCut("top", x, 1, 1, 2);
        dueCut("top", x, 2, 2, 3);
        dueCut("top", x, 3, 2, 4);
        dueCut("top", x, 4, 3, 4);
        int all = gateOver(x, AND, 0, top, 2);
        due("cuts within cuts are left out", x.cuts(all, 32), 4);
        dueCut("all", x, 0, 1, 2);
        dueCut("all", x, 1, 2, 3);
        dueCut("all", x, 2, 2, 4);
        dueCut("all", x, 3, 2, 5);
        due("m is how many are under it", x.cuts(both, 4), 1);
        dueCut("both", x, 0, 1, 2);
        due("those before are gone", x.cut(1, 0), 0);
    }

    private static void cutsKeepToSteps() {
        SafetyTrees x = withEvents(3);
        int gate = gateOver(x, OR, 0, 1, 2, 3);
        due("as many steps as sets", x.cuts(gate, 8), 3);
        due("steps below 0", x.cuts(gate, -1), -2);
        due("steps least", x.cuts(gate, Long.MIN_VALUE), -2);
        due("no gate", x.cuts(9, 8), -2);
        due("an event", x.cuts(1, 8), -2);
        due("no gate, no steps", x.cuts(0, -1), -2);
        dueCut("what was told stays", x, 2, 3);
        due("a step short", x.cuts(gate, 7), -1);
        due("none are told", x.cut(0, 0), 0);
        due("steps most", x.cuts(gate, Long.MAX_VALUE), 3);
        dueCut("told again", x, 0, 1);
        due("no steps", x.cuts(gate, 0), -1);
        due("none are told then", x.cut(0, 0), 0);
    }

    private static void cutsOfEmptyGates() {
        SafetyTrees x = withEvents(1);
        int and = x.gate(AND, 0);
        int or = x.gate(OR, 0);
        int votes = gateOver(x, VOTES, 2, 1);
        due("AND of none: the empty cut", x.cuts(and, 1), 1);
        dueCut("the empty cut", x, 0);
        due("AND of none, no steps", x.cuts(and, 0), -1);
        due("OR of none", x.cuts(or, 1), 0);
        due("too few votes", x.cuts(votes, 2), 0);
        due("no cut", x.cut(0, 0), 0);
        int top = gateOver(x, VOTES, 2, and, or, 1);
        due("votes with one that is always true", x.cuts(top, 2), 1);
        dueCut("top", x, 0, 1);
    }

    /** 6 of 12 by pairs of votes: 924 minimal cuts, the most that 12 events can have. */
    private static void cutsOfMostKinds() {
        SafetyTrees x = withEvents(12);
        int top = x.gate(OR, 0);
        for (int n = 1; n <= 5; n++) {
            int both = x.gate(AND, 0);
            due("in the top", x.below(top, both), 1);
            due("n of 1 .. 6", x.below(both, gateOver(x, VOTES, n, 1, 2, 3, 4, 5, 6)), 1);
            due("6 - n of 7 .. 12", x.below(both, gateOver(x, VOTES, 6 - n, 7, 8, 9, 10, 11, 12)), 1);
        }
        due("all of 1 .. 6", x.below(top, gateOver(x, AND, 0, 1, 2, 3, 4, 5, 6)), 1);
        due("all of 7 .. 12", x.below(top, gateOver(x, VOTES, 6, 7, 8, 9, 10, 11, 12)), 1);
        due("6 of 12", x.cuts(top, 4096), 924);
        dueCut("the first", x, 0, 1, 2, 3, 4, 5, 6);
        dueCut("the second", x, 1, 1, 2, 3, 4, 5, 7);
        dueCut("the last", x, 923, 7, 8, 9, 10, 11, 12);
        due("none after it", x.cut(924, 0), 0);
        due("6 and more of 12", x.plain(top), 2510);
        dueChance("6 and more of 12", x, top, 1255, 2048, true);
    }

    private static void cutAnswersOnlyWhatIsThere() {
        SafetyTrees x = withEvents(1);
        int gate = x.gate(AND, 0);
        due("an event after a gate", x.event(1, 2), 3);
        due("under", x.below(gate, 3), 1);
        due("under", x.below(gate, 1), 1);
        due("one cut", x.cuts(gate, 4), 1);
        dueCut("by numbers", x, 0, 1, 3);
        due("i -1", x.cut(-1, 0), 0);
        due("i 1", x.cut(1, 0), 0);
        due("k -1", x.cut(0, -1), 0);
        due("i least", x.cut(Integer.MIN_VALUE, 0), 0);
        due("k least", x.cut(0, Integer.MIN_VALUE), 0);
        due("i most", x.cut(Integer.MAX_VALUE, 0), 0);
        due("k most", x.cut(0, Integer.MAX_VALUE), 0);
    }

    private static void cutsToldStayAsTheyWere() {
        SafetyTrees x = withEvents(2);
        int gate = gateOver(x, OR, 0, 2);
        due("cuts", x.cuts(gate, 2), 1);
        due("a new event", x.event(1, 2), 4);
        due("the tree grows", x.below(gate, 1), 1);
        x.plain(gate);
        x.chance(gate, 0);
        dueCut("as told", x, 0, 2);
        due("no more than told", x.cut(1, 0), 0);
    }

    private static void chanceIsExactAndLowest() {
        SafetyTrees x = new SafetyTrees();
        x.event(2, 4);
        x.event(3, 9);
        x.event(0, 7);
        x.event(5, 5);
        dueChance("AND of 1/2, 1/3", x, gateOver(x, AND, 0, 1, 2), 1, 6, true);
        dueChance("OR of 1/2, 1/3", x, gateOver(x, OR, 0, 1, 2), 2, 3, true);
        dueChance("2 of 1/2, 1/3, 0, 1", x, gateOver(x, VOTES, 2, 1, 2, 3, 4), 2, 3, true);
        dueChance("3 of 1/2, 1/3, 0, 1", x, gateOver(x, VOTES, 3, 1, 2, 3, 4), 1, 6, true);
        dueChance("what never happens", x, gateOver(x, AND, 0, 1, 3), 0, 1, true);
        dueChance("what always happens", x, gateOver(x, OR, 0, 1, 4), 1, 1, true);
        dueChance("AND of none", x, x.gate(AND, 0), 1, 1, true);
        dueChance("OR of none", x, x.gate(OR, 0), 0, 1, true);
        dueChance("VOTES of none", x, x.gate(VOTES, 1), 0, 1, true);
        due("side -1 is what is below", x.chance(5, -1), 6);
        due("side 2 is what is below", x.chance(5, 2), 6);
        due("an event", x.chance(1, 0), -1);
        due("node 0", x.chance(0, 1), -1);
        due("no node", x.chance(14, 0), -1);
        due("least", x.chance(Integer.MIN_VALUE, 0), -1);
    }

    private static void chanceSharesEvents() {
        SafetyTrees x = new SafetyTrees();
        x.event(1, 2);
        x.event(1, 3);
        x.event(1, 5);
        int first = gateOver(x, AND, 0, 1, 2);
        int second = gateOver(x, AND, 0, 1, 3);
        dueChance("1 and (2 or 3)", x, gateOver(x, OR, 0, first, second), 7, 30, true);
        dueChance("1 and 2 and 3", x, gateOver(x, AND, 0, first, second), 1, 30, true);
    }

    private static void chanceWithCommonCauses() {
        SafetyTrees x = new SafetyTrees();
        x.event(1, 2);
        x.event(1, 3);
        x.event(1, 5);
        int both = gateOver(x, AND, 0, 1, 2);
        int third = gateOver(x, OR, 0, 3);
        dueChance("before", x, both, 1, 6, true);
        due("a cause of both", x.common(1, 2, 1, 4), 1);
        dueChance("1/4 + 3/4 * 1/6", x, both, 3, 8, true);
        dueChance("not touched", x, third, 1, 5, true);
        due("a cause of one that is under", x.common(2, 3, 1, 2), 2);
        dueChance("1/4 + 3/4 * 1/2 * 2/3", x, both, 1, 2, true);
        dueChance("1/2 + 1/2 * 1/5", x, third, 3, 5, true);
        due("the same pair again", x.common(2, 1, 1, 1), 3);
        dueChance("one that is sure", x, both, 1, 1, true);
        due("one that never happens", x.common(3, 1, 0, 10), 4);
        dueChance("changes nothing", x, third, 3, 5, true);
        due("cuts know no common causes", x.cuts(both, 4), 1);
        dueCut("cuts know no common causes", x, 0, 1, 2);
        due("nor do sets", x.plain(both), 1);
    }

    private static void chanceAtTheExactLimit() {
        SafetyTrees x = new SafetyTrees();
        for (int i = 0; i < 12; i++) {
            x.event(9, 10);
        }
        int low = gateOver(x, AND, 0, 1, 2, 3, 4, 5, 6);
        int high = gateOver(x, AND, 0, 7, 8, 9, 10, 11, 12);
        int top = gateOver(x, AND, 0, low, high);
        dueChance("12 events", x, top, 282429536481L, 1000000000000L, true);
        x.common(1, 2, 1, 10);
        x.common(11, 12, 1, 10);
        // (0.1 + 0.9 * 0.81) squared, times 0.9 to the 8th
        dueChance("12 events and 2 causes", x, top, 829L * 829L * 43046721L, 100000000000000L, true);
        x.common(1, 12, 1, 10);
        dueChance("12 events and 3 causes: the least of them", x, top, 9, 10, false);
        // (0.1 + 0.9 * 0.91 * 0.9), times 0.9 to the 4th
        dueChance("6 events and 2 causes are exact still", x, low, 8371L * 6561L, 100000000L, true);
    }

    private static void chanceAsABound() {
        SafetyTrees x = new SafetyTrees();
        for (int i = 0; i < 12; i++) {
            x.event(1, 10);
        }
        int ten = gateOver(x, VOTES, 7, 1, 2, 3, 4, 5, 6, 7, 8, 9, 10);
        int rest = gateOver(x, OR, 0, 11, 12);
        int top = gateOver(x, OR, 0, ten, rest);
        x.common(1, 2, 1, 8);
        x.common(1, 11, 1, 9);
        dueChance("2 events and a cause: 1 - 0.9 * 8/9 * 0.9", x, rest, 7, 25, true);
        x.chance(top, 0);
        due("14 together are exact", x.exact() ? 1 : 0, 1);
        x.common(3, 4, 1, 7);
        // events 1 .. 12 in parts: 847, 567, 612, 612, 6 times 252, 532, 252
        // 7 votes: 4150 / 7 upwards is 593; all: 593 + 532 + 252
        dueChance("15 together are a bound", x, top, 1377 / 9, 2520 / 9, false);
        dueChance("fewer of them are exact", x, rest, 7, 25, true);
        x.common(3, 4, 10, 10);
        // events 3 and 4 are 2520 at most: 7966 / 7 upwards is 1138
        dueChance("16 together", x, top, 1922 / 2, 2520 / 2, false);
    }

    private static void boundOfEachKind() {
        SafetyTrees x = new SafetyTrees();
        for (int i = 0; i < 12; i++) {
            x.event(i == 11 ? 0 : 1, 2);
        }
        x.common(1, 2, 1, 10);
        x.common(1, 3, 1, 10);
        x.common(1, 4, 1, 10);
        int half = gateOver(x, OR, 0, 1, 2, 3, 4, 5, 6);
        int other = gateOver(x, OR, 0, 7, 8, 9, 10, 11, 12);
        int and = gateOver(x, AND, 0, half, other);
        dueChance("AND of two that are 2520 at most", x, and, 1, 1, false);
        due("the least below", x.below(and, 5), 1);
        dueChance("the least below", x, and, 1, 2, false);
        int none = x.gate(AND, 0);
        int never = x.gate(OR, 0);
        dueChance("AND of none is exact", x, none, 1, 1, true);
        dueChance("3 of 2520, 2520, 2520, 1260, 0", x, gateOver(x, VOTES, 3, half, other, none, and, never), 1, 1, false);
        dueChance("10 of 1260, 2520, 0", x, gateOver(x, VOTES, 10, and, none, never), 3, 20, false);
        due("one that never is below", x.below(and, never), 1);
        dueChance("AND with OR of none", x, and, 0, 1, false);
    }

    private static void exactTellsOfTheLastGate() {
        SafetyTrees x = withEvents(12);
        int one = gateOver(x, OR, 0, 1);
        int low = gateOver(x, OR, 0, 1, 2, 3, 4, 5, 6);
        int all = gateOver(x, OR, 0, low, 7, 8, 9, 10, 11, 12);
        due("before one", x.exact() ? 1 : 0, 0);
        due("no gate", x.chance(99, 0), -1);
        due("still before one", x.exact() ? 1 : 0, 0);
        x.chance(one, 1);
        due("exact", x.exact() ? 1 : 0, 1);
        x.common(1, 2, 1, 2);
        x.common(3, 4, 1, 2);
        x.common(5, 6, 1, 2);
        due("stays when trees change", x.exact() ? 1 : 0, 1);
        x.chance(all, 0);
        due("a bound", x.exact() ? 1 : 0, 0);
        x.chance(1, 0);
        x.plain(one);
        x.cuts(one, 2);
        due("a bound still", x.exact() ? 1 : 0, 0);
        x.chance(one, 0);
        due("exact again", x.exact() ? 1 : 0, 1);
        x.chance(-1, 0);
        due("exact still", x.exact() ? 1 : 0, 1);
    }

    private static void commonIsCountedOrRefused() {
        SafetyTrees x = withEvents(2);
        int gate = gateOver(x, AND, 0, 1, 2);
        due("common(1, gate)", x.common(1, gate, 1, 2), -1);
        due("common(gate, 1)", x.common(gate, 1, 1, 2), -1);
        due("common(gate, gate)", x.common(gate, gate, 1, 2), -1);
        due("common(0, 1)", x.common(0, 1, 1, 2), -1);
        due("common(1, 4)", x.common(1, 4, 1, 2), -1);
        due("common(4, 1) with no down", x.common(4, 1, 1, 0), -1);
        due("common at the ends", x.common(Integer.MIN_VALUE, Integer.MAX_VALUE, 1, 2), -1);
        due("common(1, 1)", x.common(1, 1, 1, 2), -2);
        due("common down 0", x.common(1, 2, 0, 0), -2);
        due("common down 11", x.common(1, 2, 1, 11), -2);
        due("common down most", x.common(1, 2, 1, Long.MAX_VALUE), -2);
        due("common up -1", x.common(1, 2, -1, 2), -2);
        due("common up 3 of 2", x.common(1, 2, 3, 2), -2);
        due("common up most", x.common(1, 2, Long.MAX_VALUE, 2), -2);
        dueChance("none of these is there", x, gate, 1, 4, true);
        due("common 0 of 1", x.common(1, 2, 0, 1), 1);
        due("common 1 of 10", x.common(2, 1, 1, 10), 2);
        due("common 5 of 10", x.common(1, 2, 5, 10), 3);
        due("common 1 of 1", x.common(1, 2, 1, 1), 4);
        due("the fifth", x.common(1, 2, 1, 2), -4);
        due("the fifth, of one", x.common(1, 1, 1, 2), -2);
        due("the fifth, of none", x.common(1, 3, 1, 2), -1);
    }

    private static void gradeGivesTheClass() {
        SafetyTrees x = new SafetyTrees();
        for (int a = -1; a <= 4; a++) {
            for (int b = -1; b <= 5; b++) {
                for (int c = -1; c <= 4; c++) {
                    int sum = a + b + c;
                    int cls = a == 0 || b == 0 || c == 0 || sum < 7 ? 0 : sum - 6;
                    boolean none = a < 0 || a > 3 || b < 0 || b > 4 || c < 0 || c > 3;
                    due("grade(" + a + ", " + b + ", " + c + ")", x.grade(a, b, c), none ? -2 : cls);
                }
            }
        }
        due("grade 3 4 3", x.grade(3, 4, 3), 4);
        due("grade 2 3 2", x.grade(2, 3, 2), 1);
        due("grade 3 4 0", x.grade(3, 4, 0), 0);
        due("grade at the ends", x.grade(Integer.MAX_VALUE, Integer.MIN_VALUE, 0), -2);
    }

    private static void goalIsNumberedOrRefused() {
        SafetyTrees x = new SafetyTrees();
        due("class -1", x.goal(-1), -2);
        due("class 5", x.goal(5), -2);
        due("class least", x.goal(Integer.MIN_VALUE), -2);
        for (int i = 1; i <= 30; i++) {
            due("goal " + i, x.goal(i % 5), i);
        }
        due("goal 31", x.goal(4), -4);
        due("goal 31 of no class", x.goal(5), -2);
        due("the last of class 4", x.open(23), 29);
        due("no more", x.open(24), 0);
    }

    private static void traceIsCountedOrRefused() {
        SafetyTrees x = new SafetyTrees();
        x.goal(1);
        x.goal(2);
        due("goal 0", x.trace(0, 1, 1), -1);
        due("goal 3", x.trace(3, 1, 1), -1);
        due("goal 3, part 0", x.trace(3, 0, 1), -1);
        due("part 0", x.trace(1, 0, 1), -2);
        due("part 51", x.trace(1, 51, 1), -2);
        due("test -1", x.trace(1, 1, -1), -2);
        due("test 51", x.trace(1, 1, 51), -2);
        due("at the ends", x.trace(1, Integer.MIN_VALUE, Integer.MAX_VALUE), -2);
        due("part 1, test 50", x.trace(1, 1, 50), 1);
        due("part 50, test 0", x.trace(1, 50, 0), 2);
        due("this row", x.trace(1, 1, 50), -3);
        due("another goal", x.trace(2, 1, 50), 3);
        due("another part", x.trace(1, 2, 50), 4);
        due("another test", x.trace(1, 1, 49), 5);
        due("no test", x.trace(1, 1, 0), 6);
        due("this row with no test", x.trace(1, 1, 0), -3);
    }

    private static void traceRefusalsInOrder() {
        SafetyTrees x = new SafetyTrees();
        x.goal(1);
        x.goal(2);
        for (int i = 1; i <= 100; i++) {
            due("row " + i, x.trace(1 + i % 2, 1 + (i - 1) / 2, 0), i);
        }
        due("row 101", x.trace(1, 1, 1), -4);
        due("row 101 is there", x.trace(1, 1, 0), -3);
        due("row 101 of no part", x.trace(1, 51, 0), -2);
        due("row 101 of no goal", x.trace(3, 1, 0), -1);
        dueCover("nothing was added", x, 1, 0, 1);
        due("goals are open", x.open(1), 2);
        due("all parts are open", x.open(2), -1);
        due("the last part", x.open(51), -50);
        due("no more", x.open(52), 0);
    }

    private static void openListsGoalsThenParts() {
        SafetyTrees x = new SafetyTrees();
        x.goal(0);
        x.goal(1);
        x.goal(4);
        due("class 0 is not open", x.open(0), 2);
        due("the next", x.open(1), 3);
        due("no more", x.open(2), 0);
        x.trace(3, 9, 0);
        x.trace(1, 4, 0);
        due("a row without a test leaves it open", x.open(1), 3);
        due("parts by numbers", x.open(2), -4);
        due("parts by numbers, next", x.open(3), -9);
        due("no more parts", x.open(4), 0);
        x.trace(1, 9, 2);
        due("a test of the part for another goal", x.open(2), -4);
        due("part 9 is not open", x.open(3), 0);
        due("goal 3 is", x.open(1), 3);
        x.trace(3, 5, 1);
        due("goal 3 is no more", x.open(1), -4);
        due("part 5 never was", x.open(2), 0);
        due("i -1", x.open(-1), 0);
        due("i least", x.open(Integer.MIN_VALUE), 0);
        due("i most", x.open(Integer.MAX_VALUE), 0);
    }

    private static void coverIsAShare() {
        SafetyTrees x = new SafetyTrees();
        x.goal(1);
        x.goal(0);
        dueNoCover("no rows", x, 7, 0);
        x.trace(1, 7, 0);
        dueCover("0 of 1", x, 7, 0, 1);
        x.trace(2, 7, 0);
        dueCover("0 of 2", x, 7, 0, 1);
        x.trace(1, 7, 1);
        dueCover("1 of 3", x, 7, 1, 3);
        x.trace(2, 7, 1);
        dueCover("2 of 4", x, 7, 1, 2);
        x.trace(2, 8, 50);
        dueCover("1 of 1", x, 8, 1, 1);
        dueNoCover("no rows", x, 6, 0);
        dueNoCover("no rows", x, 0, 0);
        dueNoCover("no rows", x, -7, 0);
        dueNoCover("no rows", x, 51, 0);
        dueNoCover("no rows", x, Integer.MAX_VALUE, 0);
        dueCover("as before", x, 7, 1, 2);
    }

    private static void plainCountsSets() {
        SafetyTrees x = withEvents(12);
        due("an event", x.plain(1), -2);
        due("node 0", x.plain(0), -2);
        due("no node", x.plain(13), -2);
        due("least", x.plain(Integer.MIN_VALUE), -2);
        int ten = gateOver(x, VOTES, 10, 3, 4, 5, 6, 7, 8, 9, 10, 11, 12);
        due("10 of 10", x.plain(ten), 1);
        int nine = gateOver(x, VOTES, 9, 3, 4, 5, 6, 7, 8, 9, 10, 11, 12);
        due("9 of 10", x.plain(nine), 11);
        int eight = gateOver(x, VOTES, 8, 3, 4, 5, 6, 7, 8, 9, 10, 11, 12);
        due("8 of 10", x.plain(eight), 56);
        int one = gateOver(x, VOTES, 1, 3, 4, 5, 6, 7, 8, 9, 10, 11, 12);
        due("1 of 10", x.plain(one), 1023);
        due("OR of that and two more", x.plain(gateOver(x, OR, 0, one, 1, 2)), 4095);
        due("AND of that and two more", x.plain(gateOver(x, AND, 0, one, 1, 2)), 1023);
        due("AND of none", x.plain(x.gate(AND, 0)), 1);
        due("OR of none", x.plain(x.gate(OR, 0)), 0);
        due("VOTES of none", x.plain(x.gate(VOTES, 1)), 0);
    }
}

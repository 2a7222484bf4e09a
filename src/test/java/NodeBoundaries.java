/** Boundaries of events, gates, what is below them and when they are true: promises 1 to 4 and 15, and their terms. */
public final class NodeBoundaries extends Checks {
    public static void main(String[] args) {
        sentence("Promise 1: Nothing", NodeBoundaries::nothingInANewObject);
        sentence("Promise 1: Nothing, whatever other objects have", NodeBoundaries::objectsStandApart);
        sentence("at most 512 calls", NodeBoundaries::allCallsOfAnObject);
        sentence("NODES are numbered from 1 on", NodeBoundaries::nodesAreNumberedTogether);

        sentence("event: -2 down is not 1 .. 10", NodeBoundaries::downOfAnEvent);
        sentence("event: -2 up is below 0", NodeBoundaries::upOfAnEvent);
        sentence("event: 0 (and there is none) if up is above down", NodeBoundaries::upAboveDown);
        sentence("event: -4 there are 12", NodeBoundaries::twelveEvents);
        sentence("event: -2, then -4, otherwise 0", NodeBoundaries::eventRefusalsInOrder);

        sentence("gate: -2 no such kind", NodeBoundaries::kindsOfGates);
        sentence("gate: -2 no such n, VOTES of 1 .. 10", NodeBoundaries::votesOfGates);
        sentence("gate: -2 no such n, for others 0", NodeBoundaries::noVotesOfOthers);
        sentence("gate: -4 there are 20", NodeBoundaries::twentyGates);
        sentence("gate: -2, then -4", NodeBoundaries::gateRefusalsInOrder);

        sentence("below: -1 there is no such gate", NodeBoundaries::noSuchGate);
        sentence("below: -1 there is no such node", NodeBoundaries::noSuchNode);
        sentence("below: -3 it is there", NodeBoundaries::eachOnce);
        sentence("below: -4 the gate has 10", NodeBoundaries::tenBelow);
        sentence("below: 0 if that would be a ring (nothing changes)", NodeBoundaries::rings);
        sentence("below: a ring through all 20 gates", NodeBoundaries::longestRing);
        sentence("below: 0 for a ring alone", NodeBoundaries::noRings);
        sentence("below: -1, then -3, then -4, otherwise 0", NodeBoundaries::belowRefusalsInOrder);

        sentence("AND if all BELOW are (AND of none is TRUE)", NodeBoundaries::allOfSome);
        sentence("OR if one is (OR of none is not)", NodeBoundaries::oneOfSome);
        sentence("VOTES if n or more are", NodeBoundaries::votesOfSome);
        sentence("UNDER: BELOW one that is UNDER it, and so on", NodeBoundaries::deepestTrees);
        sentence("UNDER: events that come below later", NodeBoundaries::lateEvents);
        sentence("all nodes, each gate with 10", NodeBoundaries::fullestTree);

        sentence("plain: -2 there is no gate", NodeBoundaries::plainOfNoGate);
        sentence("plain: of no sets and of all of them", NodeBoundaries::plainOfNoneAndAll);
        end();
    }

    private static void nothingInANewObject() {
        SafetyTrees x = new SafetyTrees();
        due("exact()", x.exact() ? 1 : 0, 0);
        for (int number : new int[] {Integer.MIN_VALUE, -1, 0, 1, 2, 32, Integer.MAX_VALUE}) {
            due("below(" + number + ")", x.below(number, number), -1);
            due("cuts(" + number + ")", x.cuts(number, 4096), -2);
            due("cut(" + number + ", 0)", x.cut(number, 0), 0);
            due("cut(0, " + number + ")", x.cut(0, number), 0);
            due("chance(" + number + ", 0)", x.chance(number, 0), -1);
            due("chance(" + number + ", 1)", x.chance(number, 1), -1);
            due("common(" + number + ")", x.common(number, 1, 1, 2), -1);
            due("trace(" + number + ")", x.trace(number, 1, 1), -1);
            due("open(" + number + ")", x.open(number), 0);
            due("plain(" + number + ")", x.plain(number), -2);
        }
        due("exact() still", x.exact() ? 1 : 0, 0);
        due("the first event", x.event(1, 2), 1);
        due("the first goal", x.goal(1), 1);
        due("the first row", x.trace(1, 1, 1), 1);
        due("the second event", x.event(1, 2), 2);
        due("the first cause", x.common(1, 2, 1, 2), 1);
        due("the first gate", new SafetyTrees().gate(AND, 0), 1);
    }

    private static void objectsStandApart() {
        SafetyTrees full = withEvents(12);
        int gate = gateOver(full, OR, 0, 1, 2);
        SafetyTrees empty = new SafetyTrees();
        full.cuts(gate, 4);
        full.chance(gate, 0);
        full.common(1, 2, 1, 2);
        full.goal(1);
        full.trace(1, 1, 0);
        due("cuts told to another", empty.cut(0, 0), 0);
        dueExact("a chance told to another", empty, false);
        due("goals of another", empty.open(0), 0);
        due("a gate of another", empty.plain(gate), -2);
        due("events of another", empty.event(1, 3), 1);
        due("goals of another", empty.goal(0), 1);
        dueCut("its own", full, 0, 1);
        dueExact("its own", full, true);
    }

    private static void allCallsOfAnObject() {
        SafetyTrees x = withEvents(3);
        int gate = gateOver(x, VOTES, 2, 1, 2, 3);
        for (int calls = 7; calls < 511; calls += 4) {
            due("cuts, after " + calls + " calls", x.cuts(gate, 8), 3);
            due("cut, after " + calls + " calls", x.cut(2, 1), 3);
            due("chance, after " + calls + " calls", x.chance(gate, 0), 1);
            due("event, after " + calls + " calls", x.event(0, 0), -2);
        }
        due("call 512", x.plain(gate), 4);
    }

    private static void nodesAreNumberedTogether() {
        SafetyTrees x = new SafetyTrees();
        for (int i = 0; i < 12; i++) {
            due("an event", x.event(i % 2, 2), 2 * i + 1);
            due("a gate", x.gate(OR, 0), 2 * i + 2);
        }
        for (int number = 25; number <= 32; number++) {
            due("a gate", x.gate(AND, 0), number);
        }
        due("the first gate over the last event", x.below(2, 23), 1);
        due("the last gate over the first event", x.below(32, 1), 1);
        due("sets of the first gate", x.plain(2), 1);
        due("sets of the last gate", x.plain(32), 1);
        dueChance("the first gate", x, 2, 1, 2);
        dueChance("the last gate", x, 32, 0, 1);
        due("cuts of the first gate", x.cuts(2, 2), 1);
        dueCut("the first gate", x, 0, 23);
    }

    private static void downOfAnEvent() {
        SafetyTrees x = new SafetyTrees();
        due("down 1", x.event(0, 1), 1);
        due("down 10", x.event(0, 10), 2);
        long[] outside = {
            0, 11, -1, -10, 12, wrapsTo(1), wrapsTo(10), -wrapsTo(-1), Integer.MIN_VALUE, Integer.MAX_VALUE,
            Long.MIN_VALUE, Long.MIN_VALUE + 1, Long.MAX_VALUE
        };
        for (long down : outside) {
            due("down " + down, x.event(0, down), -2);
        }
        due("down 1 again", x.event(1, 1), 3);
        SafetyTrees each = new SafetyTrees();
        int gate = each.gate(AND, 0);
        for (int down = 1; down <= 10; down++) {
            due("down " + down, each.event(1, down), 1 + down);
            each.below(gate, 1 + down);
        }
        dueChance("1/1 * 1/2 * .. * 1/10", each, gate, 1, 3628800);
    }

    private static void upOfAnEvent() {
        SafetyTrees x = new SafetyTrees();
        due("up 0", x.event(0, 5), 1);
        for (long up : new long[] {-1, -5, -wrapsTo(-1), Integer.MIN_VALUE, Long.MIN_VALUE, Long.MIN_VALUE + 1}) {
            due("up " + up, x.event(up, 5), -2);
        }
        due("up 1", x.event(1, 5), 2);
        dueChance("up 0", x, gateOver(x, OR, 0, 1), 0, 1);
        dueChance("up 1", x, gateOver(x, OR, 0, 2), 1, 5);
    }

    private static void upAboveDown() {
        SafetyTrees x = new SafetyTrees();
        for (int down = 1; down <= 10; down++) {
            due("one above " + down, x.event(down + 1, down), 0);
            due("as much as " + down, x.event(down, down), down);
        }
        for (long up : new long[] {wrapsTo(0), wrapsTo(1), Integer.MAX_VALUE, Long.MAX_VALUE}) {
            due("up " + up, x.event(up, 5), 0);
        }
        int gate = gateOver(x, AND, 0, 1, 2, 3, 4, 5, 6, 7, 8, 9, 10);
        due("the next node after these", gate, 11);
        dueChance("all that are sure", x, gate, 1, 1);
        SafetyTrees none = new SafetyTrees();
        due("up 2 of 1", none.event(2, 1), 0);
        due("there is none: a gate is 1", none.gate(OR, 0), 1);
        due("there is none: below", none.below(1, 2), -1);
        due("there is none: common", none.common(1, 2, 1, 2), -1);
    }

    private static void twelveEvents() {
        SafetyTrees x = withEvents(11);
        due("event 12", x.event(1, 10), 12);
        due("event 13", x.event(1, 2), -4);
        due("event 13 again", x.event(0, 1), -4);
        int top = gateOverAll(x, OR, 1, 12);
        due("the next nodes are gates", top, 15);
        due("there is no event 13", x.common(1, 13, 1, 2), -1);
        due("all 12 count", x.plain(top), 4095);
        due("event 12 is there", x.chance(gateOver(x, OR, 0, 12), 1), 10);
        SafetyTrees mixed = new SafetyTrees();
        for (int i = 1; i <= 20; i++) {
            due("gate " + i, mixed.gate(OR, 0), i);
        }
        for (int i = 21; i <= 32; i++) {
            due("an event as node " + i, mixed.event(1, 2), i);
        }
        due("no event as node 33", mixed.event(1, 2), -4);
    }

    private static void eventRefusalsInOrder() {
        SafetyTrees x = withEvents(11);
        due("11: up above down", x.event(3, 2), 0);
        due("11: up below 0, down 0", x.event(-1, 0), -2);
        due("11: up above down 0", x.event(1, 0), -2);
        due("11: up above down 11", x.event(12, 11), -2);
        due("event 12", x.event(2, 2), 12);
        due("12: up above down", x.event(3, 2), -4);
        due("12: down 0", x.event(0, 0), -2);
        due("12: down 11", x.event(0, 11), -2);
        due("12: up -1", x.event(-1, 2), -2);
        due("12: up above down 0", x.event(1, 0), -2);
    }

    private static void kindsOfGates() {
        SafetyTrees x = withEvents(2);
        int[] gates = {gateOver(x, 0, 0, 1, 2), gateOver(x, 1, 0, 1, 2), gateOver(x, 2, 2, 1, 2)};
        for (int kind : new int[] {-1, 3, 4, 256, 257, 258, 65536, Integer.MIN_VALUE, Integer.MAX_VALUE}) {
            due("kind " + kind + " of 0", x.gate(kind, 0), -2);
            due("kind " + kind + " of 1", x.gate(kind, 1), -2);
        }
        due("the next one", x.gate(AND, 0), 6);
        due("kind 0 is AND", x.plain(gates[0]), 1);
        due("kind 1 is OR", x.plain(gates[1]), 3);
        due("kind 2 is VOTES", x.plain(gates[2]), 1);
    }

    private static void votesOfGates() {
        SafetyTrees x = new SafetyTrees();
        for (int n = 1; n <= 10; n++) {
            due("VOTES of " + n, x.gate(VOTES, n), n);
        }
        for (int n : new int[] {0, 11, -1, -10, 12, 257, 65537, Integer.MIN_VALUE, Integer.MAX_VALUE}) {
            due("VOTES of " + n, x.gate(VOTES, n), -2);
        }
        due("the next one", x.gate(VOTES, 10), 11);
    }

    private static void noVotesOfOthers() {
        SafetyTrees x = new SafetyTrees();
        due("AND of 0", x.gate(AND, 0), 1);
        due("OR of 0", x.gate(OR, 0), 2);
        for (int n : new int[] {-1, 1, 2, 10, 11, 256, 65536, Integer.MIN_VALUE, Integer.MAX_VALUE}) {
            due("AND of " + n, x.gate(AND, n), -2);
            due("OR of " + n, x.gate(OR, n), -2);
        }
        due("the next one", x.gate(OR, 0), 3);
    }

    private static void twentyGates() {
        SafetyTrees x = new SafetyTrees();
        for (int i = 1; i <= 20; i++) {
            due("gate " + i, i % 3 == 2 ? x.gate(VOTES, 3) : x.gate(i % 3, 0), i);
        }
        due("AND as gate 21", x.gate(AND, 0), -4);
        due("OR as gate 21", x.gate(OR, 0), -4);
        due("VOTES as gate 21", x.gate(VOTES, 1), -4);
        due("there is no gate 21", x.plain(21), -2);
        due("the next node is an event", x.event(1, 2), 21);
        due("gate 20 is there", x.below(20, 21), 1);
        SafetyTrees late = withEvents(12);
        for (int i = 13; i <= 32; i++) {
            due("a gate as node " + i, late.gate(OR, 0), i);
        }
        due("no gate as node 33", late.gate(OR, 0), -4);
        due("there is no node 33", late.below(32, 33), -1);
        due("node 32 is there", late.below(13, 32), 1);
    }

    private static void gateRefusalsInOrder() {
        SafetyTrees x = new SafetyTrees();
        for (int i = 1; i <= 19; i++) {
            x.gate(OR, 0);
        }
        due("19: no such kind", x.gate(3, 0), -2);
        due("gate 20", x.gate(AND, 0), 20);
        due("20: kind 3", x.gate(3, 0), -2);
        due("20: kind -1", x.gate(-1, 0), -2);
        due("20: VOTES of 0", x.gate(VOTES, 0), -2);
        due("20: VOTES of 11", x.gate(VOTES, 11), -2);
        due("20: AND of 1", x.gate(AND, 1), -2);
        due("20: OR of 1", x.gate(OR, 1), -2);
    }

    private static void noSuchGate() {
        SafetyTrees x = withEvents(2);
        int first = x.gate(OR, 0);
        int last = x.gate(OR, 0);
        for (int gate : noneOf(last)) {
            due("below(" + gate + ", 1)", x.below(gate, 1), -1);
        }
        due("below an event", x.below(1, 2), -1);
        due("below the last event", x.below(2, 1), -1);
        due("an event below itself", x.below(1, 1), -1);
        due("a gate below an event", x.below(2, first), -1);
        due("below the first gate", x.below(first, 1), 1);
        due("below the last gate", x.below(last, 2), 1);
        due("sets of the first", x.plain(first), 1);
    }

    private static void noSuchNode() {
        SafetyTrees x = withEvents(2);
        int gate = x.gate(OR, 0);
        int last = x.gate(AND, 0);
        for (int node : noneOf(last)) {
            due("below(gate, " + node + ")", x.below(gate, node), -1);
            due("no node below no gate", x.below(node, node), -1);
        }
        due("none is below", x.plain(gate), 0);
        due("the first node", x.below(gate, 1), 1);
        due("the last node", x.below(gate, last), 1);
        due("these are below", x.plain(gate), 2);
    }

    private static void eachOnce() {
        SafetyTrees x = withEvents(2);
        int low = gateOver(x, OR, 0, 1);
        int votes = gateOver(x, VOTES, 2, 1, low);
        int top = gateOver(x, OR, 0, votes);
        due("an event that is there", x.below(votes, 1), -3);
        due("a gate that is there", x.below(votes, low), -3);
        due("the only one that is there", x.below(top, votes), -3);
        due("an event that is only UNDER", x.below(top, 1), 1);
        due("it is there now", x.below(top, 1), -3);
        due("a gate that is only UNDER", x.below(top, low), 1);
        due("it is there below another", x.below(low, 2), 1);
        due("sets of both ways", x.plain(votes), 2);
    }

    private static void tenBelow() {
        SafetyTrees x = withEvents(12);
        int gate = gateOver(x, VOTES, 10, 1, 2, 3, 4, 5, 6, 7, 8, 9);
        due("the 10th", x.below(gate, 12), 1);
        due("the 11th, an event", x.below(gate, 10), -4);
        int other = x.gate(AND, 0);
        due("the 11th, a gate", x.below(gate, other), -4);
        due("10 and no more count", x.plain(gate), 1);
        due("m is 10", x.cuts(gate, 1023), -1);
        due("the tenth votes", x.cuts(gate, 1024), 1);
        dueCut("the tenth votes", x, 0, 1, 2, 3, 4, 5, 6, 7, 8, 9, 12);
        due("another gate has room", x.below(other, 10), 1);
        int gates = x.gate(AND, 0);
        for (int i = 1; i <= 10; i++) {
            due("gate " + i + " below", x.below(gates, gateOver(x, OR, 0, i)), 1);
        }
        due("the 11th, after gates", x.below(gates, 11), -4);
        due("ten gates count", x.plain(gates), 1);
    }

    private static void rings() {
        SafetyTrees x = withEvents(12);
        int a = gateOver(x, VOTES, 1, 1, 2, 3, 4, 5, 6, 7, 8);
        due("a gate of none below itself", x.below(x.gate(OR, 0), 14), 0);
        due("a gate below itself", x.below(a, a), 0);
        int b = gateOver(x, OR, 0, a);
        due("a ring of two", x.below(a, b), 0);
        int c = gateOver(x, OR, 0, b);
        due("a ring of three", x.below(a, c), 0);
        due("the middle of three", x.below(b, c), 0);
        due("the same again is no -3", x.below(a, c), 0);
        due("nothing changed", x.plain(c), 255);
        due("nothing came below: the 9th", x.below(a, 9), 1);
        due("nothing came below: the 10th", x.below(a, 10), 1);
        due("sets", x.plain(c), 1023);
    }

    /** Nodes 13 .. 32, each over the next one; then with the gates' numbers the other way round. */
    private static void longestRing() {
        SafetyTrees down = withEvents(12);
        SafetyTrees up = withEvents(12);
        for (int i = 13; i <= 32; i++) {
            down.gate(OR, 0);
            up.gate(OR, 0);
        }
        for (int i = 13; i < 32; i++) {
            due("gate " + i, down.below(i, i + 1), 1);
            due("gate " + (i + 1), up.below(i + 1, i), 1);
        }
        for (int i = 13; i <= 32; i++) {
            due("32 over " + i, down.below(32, i), 0);
            due("13 over " + i, up.below(13, i), 0);
        }
        due("the first over the last", down.below(13, 32), 1);
        due("the last over the first", up.below(32, 13), 1);
        due("an event at the end", down.below(32, 1), 1);
        due("an event at the end", up.below(13, 12), 1);
        due("sets", down.plain(13), 1);
        due("sets", up.plain(32), 1);
    }

    private static void noRings() {
        SafetyTrees x = withEvents(1);
        int top = x.gate(AND, 0);
        int left = x.gate(AND, 0);
        int right = x.gate(AND, 0);
        int bottom = x.gate(AND, 0);
        due("left", x.below(top, left), 1);
        due("right", x.below(top, right), 1);
        due("bottom below left", x.below(left, bottom), 1);
        due("bottom below right", x.below(right, bottom), 1);
        due("right below left", x.below(left, right), 1);
        due("bottom below top", x.below(top, bottom), 1);
        due("left below right", x.below(right, left), 0);
        due("an event below all", x.below(bottom, 1), 1);
        due("sets of the top", x.plain(top), 1);
    }

    private static void belowRefusalsInOrder() {
        SafetyTrees x = withEvents(12);
        int full = gateOver(x, OR, 0, 1, 2, 3, 4, 5, 6, 7, 8, 9, 10);
        int over = gateOver(x, OR, 0, full);
        due("full: no such node", x.below(full, over + 1), -1);
        due("full: node 0", x.below(full, 0), -1);
        due("full: it is there", x.below(full, 1), -3);
        due("full: the last is there", x.below(full, 10), -3);
        due("full: a ring", x.below(full, over), -4);
        due("full: a ring with itself", x.below(full, full), -4);
        due("no such gate, which would be a ring", x.below(over + 1, over + 1), -1);
        due("not full: a ring", x.below(over, over), 0);
    }

    private static void allOfSome() {
        SafetyTrees x = withEvents(10);
        int gate = x.gate(AND, 0);
        for (int count = 0; count <= 10; count++) {
            due("AND of " + count, x.plain(gate), 1);
            dueChance("AND of " + count, x, gate, 1, 1L << count);
            due("cuts of AND of " + count, x.cuts(gate, 1024), 1);
            due("the last of the cut", x.cut(0, count - 1), count);
            x.below(gate, count + 1);
        }
        int never = x.gate(OR, 0);
        int sure = x.gate(AND, 0);
        due("AND of one that is not", x.plain(gateOver(x, AND, 0, 1, never)), 0);
        due("AND of one that is always", x.plain(gateOver(x, AND, 0, 1, sure)), 1);
        due("AND of none below AND", x.plain(gateOver(x, AND, 0, sure)), 1);
    }

    private static void oneOfSome() {
        SafetyTrees x = withEvents(10);
        int gate = x.gate(OR, 0);
        for (int count = 0; count <= 10; count++) {
            due("OR of " + count, x.plain(gate), (1 << count) - 1);
            due("cuts of OR of " + count, x.cuts(gate, 1024), count);
            due("the last cut", x.cut(count - 1, 0), count);
            x.below(gate, count + 1);
        }
        int never = x.gate(OR, 0);
        int sure = x.gate(AND, 0);
        due("OR of one that is not", x.plain(gateOver(x, OR, 0, never)), 0);
        due("OR with one that is not", x.plain(gateOver(x, OR, 0, 1, never)), 1);
        due("OR with one that is always", x.plain(gateOver(x, OR, 0, 1, sure)), 2);
    }

    private static void votesOfSome() {
        for (int n = 1; n <= 10; n++) {
            SafetyTrees x = withEvents(10);
            int gate = x.gate(VOTES, n);
            for (int count = 0; count <= 10; count++) {
                due(n + " VOTES of " + count, x.plain(gate), setsOfAtLeast(n, count));
                x.below(gate, count + 1);
            }
        }
        due("2 of 3, written out", setsOfAtLeast(2, 3), 4);
        SafetyTrees sure = new SafetyTrees();
        int gate = sure.gate(VOTES, 2);
        for (int count = 1; count <= 10; count++) {
            due("one that is always", sure.below(gate, sure.gate(AND, 0)), 1);
            due("2 VOTES of " + count + " that are always", sure.plain(gate), count < 2 ? 0 : 1);
        }
    }

    private static int setsOfAtLeast(int n, int count) {
        int found = 0;
        for (int set = 0; set < 1 << count; set++) {
            found += Integer.bitCount(set) >= n ? 1 : 0;
        }
        return found;
    }

    /** 20 gates in a chain, joined from the top, from the bottom, and the odd ones first. */
    private static void deepestTrees() {
        for (int way = 0; way < 3; way++) {
            SafetyTrees x = new SafetyTrees();
            for (int i = 1; i <= 20; i++) {
                due("gate " + i, i % 3 == 2 ? x.gate(VOTES, 1) : x.gate(i % 3, 0), i);
            }
            due("the event", x.event(3, 7), 21);
            due("an event aside", x.event(1, 2), 22);
            for (int i = 1; i <= 20; i++) {
                int upper = way == 0 ? i : way == 1 ? 21 - i : i <= 10 ? 2 * i - 1 : 2 * (i - 10);
                due("below(" + upper + ")", x.below(upper, upper + 1), 1);
            }
            due("sets of the top", x.plain(1), 1);
            due("m is 1", x.cuts(1, 1), -1);
            due("cuts of the top", x.cuts(1, 2), 1);
            dueCut("the top", x, 0, 21);
            dueChance("the top", x, 1, 3, 7);
            due("a second event for the lowest gate", x.below(20, 22), 1);
            due("sets of the top with two", x.plain(1), 3);
            due("m is 2", x.cuts(1, 3), -1);
        }
    }

    private static void lateEvents() {
        SafetyTrees x = new SafetyTrees();
        int top = x.gate(OR, 0);
        int middle = x.gate(OR, 0);
        int low = x.gate(OR, 0);
        x.below(top, middle);
        due("no event UNDER", x.cuts(top, 1), 0);
        int late = x.event(1, 3);
        x.below(low, late);
        due("not UNDER yet", x.cuts(top, 1), 0);
        dueChance("not UNDER yet", x, top, 0, 1);
        x.below(middle, low);
        due("UNDER", x.cuts(top, 1), -1);
        due("UNDER", x.cuts(top, 2), 1);
        dueChance("UNDER", x, top, 1, 3);
        due("sets", x.plain(top), 1);
    }

    /** Gate i has up to 5 gates before it and events from i on, ten in all: 12 + 20 + 200 calls. */
    private static void fullestTree() {
        SafetyTrees x = withEvents(12);
        for (int i = 0; i < 20; i++) {
            int gate = x.gate(OR, 0);
            int gates = Math.min(i, 5);
            for (int k = 1; k <= gates; k++) {
                due("a gate below " + gate, x.below(gate, gate - k), 1);
            }
            for (int k = gates; k < 10; k++) {
                due("an event below " + gate, x.below(gate, 1 + (i + k) % 12), 1);
            }
            due("full: below " + gate, x.below(gate, 1 + (i + 11) % 12), -4);
        }
        due("sets of the first", x.plain(13), 1023);
        due("sets of the last", x.plain(32), 4095);
        due("cuts of the last", x.cuts(32, 4096), 12);
        dueCut("the last", x, 11, 12);
        dueChance("the last", x, 32, 4095, 4096);
    }

    private static void plainOfNoGate() {
        SafetyTrees x = withEvents(2);
        int gate = gateOver(x, OR, 0, 1, 2);
        for (int number : noneOf(gate)) {
            due("plain(" + number + ")", x.plain(number), -2);
        }
        due("an event", x.plain(1), -2);
        due("the event before a gate", x.plain(2), -2);
        due("the gate", x.plain(gate), 3);
    }

    private static void plainOfNoneAndAll() {
        SafetyTrees x = withEvents(12);
        int sure = x.gate(AND, 0);
        int never = x.gate(OR, 0);
        due("no events, always", x.plain(sure), 1);
        due("no events, never", x.plain(never), 0);
        int some = gateOverAll(x, OR, 1, 12);
        int all = gateOverAll(x, AND, 1, 12);
        due("12 events, one of them", x.plain(some), 4095);
        due("12 events, all of them", x.plain(all), 1);
        due("12 events, always", x.plain(gateOver(x, OR, 0, some, sure)), 4096);
        due("12 events, never", x.plain(gateOver(x, AND, 0, all, never)), 0);
        due("chances do not count", x.plain(gateOver(x, OR, 0, 12)), 1);
    }
}

import java.util.ArrayList;
import java.util.List;
import java.util.function.Supplier;
import java.util.function.ToLongFunction;

/**
 * "REFUSALS change nothing": each refused call is tried on an object of its own, which must then show
 * all that an object shows on which it was not tried.
 */
public final class RefusalBoundaries extends Checks {
    private static final long THROWS = Long.MAX_VALUE;

    private record Refusal(String text, long answer, ToLongFunction<SafetyTrees> call) { }

    public static void main(String[] args) {
        sentence("REFUSALS change nothing, on a new object",
            () -> leaveAsItWas(SafetyTrees::new, refusedByAll(0)));
        sentence("REFUSALS change nothing, on an object with room",
            () -> leaveAsItWas(RefusalBoundaries::someOfEach, refusedByAll(7), refusedBySome()));
        sentence("REFUSALS change nothing, on full trees",
            () -> leaveAsItWas(RefusalBoundaries::fullTrees, refusedByAll(32), refusedByFullTrees()));
        sentence("REFUSALS change nothing, with all goals and rows",
            () -> leaveAsItWas(RefusalBoundaries::fullGoals, refusedByAll(0), refusedByFullGoals()));
        end();
    }

    @SafeVarargs
    private static void leaveAsItWas(Supplier<SafetyTrees> state, List<Refusal>... lists) {
        String want = new View(state.get()).text();
        SafetyTrees all = state.get();
        for (List<Refusal> list : lists) {
            for (Refusal refusal : list) {
                SafetyTrees x = state.get();
                due(refusal.text, refusal.call.applyAsLong(x), refusal.answer);
                dueText("after " + refusal.text + " the object", new View(x).text(), want);
                due(refusal.text + ", after others", refusal.call.applyAsLong(all), refusal.answer);
            }
        }
        dueText("after all refusals the object", new View(all).text(), want);
    }

    /** 3 events, 4 gates over one another, a cause, goals and rows; cuts told, an exact chance. */
    private static SafetyTrees someOfEach() {
        SafetyTrees x = new SafetyTrees();
        x.event(1, 2);
        x.event(2, 3);
        x.event(1, 10);
        gateOver(x, AND, 0, 1, 2);
        gateOver(x, OR, 0, 4, 3);
        gateOver(x, VOTES, 2, 1, 2, 3, 5);
        gateOver(x, OR, 0, 6);
        x.common(1, 3, 1, 4);
        x.goal(0);
        x.goal(2);
        x.goal(3);
        x.trace(1, 9, 0);
        x.trace(2, 9, 4);
        x.trace(2, 5, 0);
        due("told", x.cuts(6, 8), 2);
        due("exact", x.chance(6, 0) > 0 ? 1 : 0, 1);
        return x;
    }

    /** 12 events, 20 gates, the first with 10 below and the second over it, 4 causes; cuts told, a bound. */
    private static SafetyTrees fullTrees() {
        SafetyTrees x = withEvents(12);
        gateOver(x, VOTES, 9, 1, 2, 3, 4, 5, 6, 7, 8, 9, 10);
        gateOver(x, OR, 0, 13, 11, 12);
        for (int gate = 15; gate <= 32; gate++) {
            gateOver(x, gate % 2, 0, gate - 1, 1 + gate % 12);
        }
        for (int cause = 1; cause <= 4; cause++) {
            due("cause " + cause, x.common(cause, 12, 1, 2 + cause), cause);
        }
        due("told", x.cuts(13, 1024), 10);
        due("a bound", x.chance(14, 1), 1);
        dueExact("a bound", x, false);
        return x;
    }

    /** 30 goals, the last of which is open, and 100 rows. */
    private static SafetyTrees fullGoals() {
        SafetyTrees x = new SafetyTrees();
        for (int goal = 1; goal <= 30; goal++) {
            due("goal " + goal, x.goal((goal + 1) % 5), goal);
        }
        for (int row = 1; row <= 100; row++) {
            due("row " + row, x.trace(1 + row % 28, 1 + row % 50, row <= 50 ? 0 : row % 3), row);
        }
        return x;
    }

    /** Calls that are refused in every state that has this many nodes. */
    private static List<Refusal> refusedByAll(int nodes) {
        List<Refusal> list = new ArrayList<>();
        add(list, "event(1, 0)", -2, x -> x.event(1, 0));
        add(list, "event(1, 11)", -2, x -> x.event(1, 11));
        add(list, "event(-1, 2)", -2, x -> x.event(-1, 2));
        add(list, "gate(3, 0)", -2, x -> x.gate(3, 0));
        add(list, "gate(2, 0)", -2, x -> x.gate(2, 0));
        add(list, "gate(2, 11)", -2, x -> x.gate(2, 11));
        add(list, "gate(0, 1)", -2, x -> x.gate(0, 1));
        add(list, "gate(1, -1)", -2, x -> x.gate(1, -1));
        add(list, "goal(-1)", -2, x -> x.goal(-1));
        add(list, "goal(5)", -2, x -> x.goal(5));
        add(list, "trace(0, 1, 1)", -1, x -> x.trace(0, 1, 1));
        add(list, "trace(31, 1, 1)", -1, x -> x.trace(31, 1, 1));
        add(list, "grade(4, 1, 1)", -2, x -> x.grade(4, 1, 1));
        add(list, "cover(0, 0)", THROWS, x -> x.cover(0, 0));
        add(list, "cover(51, 1)", THROWS, x -> x.cover(51, 1));
        add(list, "cut(-1, 0)", 0, x -> x.cut(-1, 0));
        add(list, "open(-1)", 0, x -> x.open(-1));
        for (int number : new int[] {Integer.MIN_VALUE, -1, 0, nodes + 1, Integer.MAX_VALUE}) {
            add(list, "below(" + number + ", " + number + ")", -1, x -> x.below(number, number));
            add(list, "below(" + number + ", 1)", -1, x -> x.below(number, 1));
            add(list, "cuts(" + number + ", 4096)", -2, x -> x.cuts(number, 4096));
            add(list, "cuts(" + number + ", 0)", -2, x -> x.cuts(number, 0));
            add(list, "chance(" + number + ", 0)", -1, x -> x.chance(number, 0));
            add(list, "chance(" + number + ", 1)", -1, x -> x.chance(number, 1));
            add(list, "common(" + number + ", 1)", -1, x -> x.common(number, 1, 1, 2));
            add(list, "common(1, " + number + ")", -1, x -> x.common(1, number, 1, 2));
            add(list, "plain(" + number + ")", -2, x -> x.plain(number));
        }
        return list;
    }

    private static List<Refusal> refusedBySome() {
        List<Refusal> list = new ArrayList<>();
        add(list, "event(3, 2)", 0, x -> x.event(3, 2));
        add(list, "below(1, 2)", -1, x -> x.below(1, 2));
        add(list, "below(7, 8)", -1, x -> x.below(7, 8));
        add(list, "below(7, 6)", -3, x -> x.below(7, 6));
        add(list, "below(6, 1)", -3, x -> x.below(6, 1));
        add(list, "below(7, 7)", 0, x -> x.below(7, 7));
        add(list, "below(4, 7)", 0, x -> x.below(4, 7));
        add(list, "below(5, 6)", 0, x -> x.below(5, 6));
        add(list, "cuts(6, -1)", -2, x -> x.cuts(6, -1));
        add(list, "cuts(1, 8)", -2, x -> x.cuts(1, 8));
        add(list, "chance(1, 0)", -1, x -> x.chance(1, 0));
        add(list, "plain(3)", -2, x -> x.plain(3));
        add(list, "common(1, 4, 1, 2)", -1, x -> x.common(1, 4, 1, 2));
        add(list, "common(2, 2, 1, 2)", -2, x -> x.common(2, 2, 1, 2));
        add(list, "common(1, 2, 0, 0)", -2, x -> x.common(1, 2, 0, 0));
        add(list, "common(1, 2, 1, 11)", -2, x -> x.common(1, 2, 1, 11));
        add(list, "common(1, 2, -1, 2)", -2, x -> x.common(1, 2, -1, 2));
        add(list, "common(1, 2, 3, 2)", -2, x -> x.common(1, 2, 3, 2));
        add(list, "trace(4, 1, 1)", -1, x -> x.trace(4, 1, 1));
        add(list, "trace(2, 0, 1)", -2, x -> x.trace(2, 0, 1));
        add(list, "trace(2, 51, 1)", -2, x -> x.trace(2, 51, 1));
        add(list, "trace(2, 1, -1)", -2, x -> x.trace(2, 1, -1));
        add(list, "trace(2, 1, 51)", -2, x -> x.trace(2, 1, 51));
        add(list, "trace(2, 9, 4)", -3, x -> x.trace(2, 9, 4));
        add(list, "trace(1, 9, 0)", -3, x -> x.trace(1, 9, 0));
        add(list, "cover(1, 0)", THROWS, x -> x.cover(1, 0));
        add(list, "cut(3, 0)", 0, x -> x.cut(3, 0));
        add(list, "open(9)", 0, x -> x.open(9));
        return list;
    }

    private static List<Refusal> refusedByFullTrees() {
        List<Refusal> list = new ArrayList<>();
        add(list, "event(1, 2)", -4, x -> x.event(1, 2));
        add(list, "event(3, 2)", -4, x -> x.event(3, 2));
        add(list, "gate(0, 0)", -4, x -> x.gate(0, 0));
        add(list, "gate(2, 10)", -4, x -> x.gate(2, 10));
        add(list, "below(13, 11)", -4, x -> x.below(13, 11));
        add(list, "below(13, 32)", -4, x -> x.below(13, 32));
        add(list, "below(13, 13)", -4, x -> x.below(13, 13));
        add(list, "below(13, 10)", -3, x -> x.below(13, 10));
        add(list, "below(13, 33)", -1, x -> x.below(13, 33));
        add(list, "below(12, 1)", -1, x -> x.below(12, 1));
        add(list, "below(14, 32)", 0, x -> x.below(14, 32));
        add(list, "below(32, 32)", 0, x -> x.below(32, 32));
        add(list, "below(32, 31)", -3, x -> x.below(32, 31));
        add(list, "cuts(32, -1)", -2, x -> x.cuts(32, -1));
        add(list, "cuts(12, 4096)", -2, x -> x.cuts(12, 4096));
        add(list, "chance(12, 0)", -1, x -> x.chance(12, 0));
        add(list, "plain(12)", -2, x -> x.plain(12));
        add(list, "common(1, 2, 1, 2)", -4, x -> x.common(1, 2, 1, 2));
        add(list, "common(1, 13, 1, 2)", -1, x -> x.common(1, 13, 1, 2));
        add(list, "common(12, 12, 1, 2)", -2, x -> x.common(12, 12, 1, 2));
        add(list, "common(1, 12, 2, 1)", -2, x -> x.common(1, 12, 2, 1));
        return list;
    }

    private static List<Refusal> refusedByFullGoals() {
        List<Refusal> list = new ArrayList<>();
        add(list, "goal(0)", -4, x -> x.goal(0));
        add(list, "goal(4)", -4, x -> x.goal(4));
        add(list, "trace(1, 1, 50)", -4, x -> x.trace(1, 1, 50));
        add(list, "trace(30, 50, 50)", -4, x -> x.trace(30, 50, 50));
        add(list, "trace(2, 2, 0)", -3, x -> x.trace(2, 2, 0));
        add(list, "trace(30, 51, 0)", -2, x -> x.trace(30, 51, 0));
        add(list, "trace(30, 1, 51)", -2, x -> x.trace(30, 1, 51));
        return list;
    }

    private static void add(List<Refusal> list, String text, long answer, ToLongFunction<SafetyTrees> call) {
        list.add(new Refusal(text, answer, x -> {
            try {
                return call.applyAsLong(x);
            } catch (ArithmeticException e) {
                return THROWS;
            }
        }));
    }

    /** All that an object shows: first what other calls would change, at last what it still has room for. */
    private static final class View {
        private final SafetyTrees x;
        private final StringBuilder text = new StringBuilder();

        View(SafetyTrees x) {
            this.x = x;
        }

        String text() {
            text.append("exact ").append(x.exact());
            showTold();
            showGoals();
            showTrees();
            showRoom();
            return text.toString();
        }

        private void show(String what, long answer) {
            text.append(' ').append(what).append(' ').append(answer);
        }

        private void showTold() {
            for (int i = 0; i < 11; i++) {
                show("cut " + i, x.cut(i, 0));
                show("with", x.cut(i, 1));
            }
        }

        private void showGoals() {
            int last = 1;
            for (int i = 0; i <= 80 && last != 0; i++) {
                last = x.open(i);
                show("open", last);
            }
            for (int part = 1; part <= 50; part++) {
                try {
                    show("cover " + part, x.cover(part, 0));
                    show("of", x.cover(part, 1));
                } catch (ArithmeticException e) {
                    show("cover " + part, THROWS);
                }
            }
        }

        private void showTrees() {
            for (int node = 1; node <= 33; node++) {
                int plain = x.plain(node);
                if (plain != -2) {
                    show("plain " + node, plain);
                    show("chance", x.chance(node, 0));
                    show("of", x.chance(node, 1));
                    show("cuts", x.cuts(node, 4096));
                    show("cut", x.cut(0, 0));
                }
            }
        }

        private void showRoom() {
            show("event", x.event(1, 3));
            show("event", x.event(1, 1));
            show("gate", x.gate(OR, 0));
            for (int node = 1; node <= 13; node++) {
                show("below", x.below(7, node));
            }
            show("plain", x.plain(7));
            show("common", x.common(1, 2, 1, 7));
            show("chance", x.chance(7, 1));
            show("goal", x.goal(1));
            show("trace", x.trace(1, 44, 1));
            show("trace", x.trace(1, 44, 2));
        }
    }
}

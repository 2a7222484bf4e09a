import java.math.BigInteger;
import java.util.ArrayList;
import java.util.Comparator;
import java.util.List;
import java.util.Random;
import java.util.TreeSet;

/** Drawn runs of calls, each answer compared with that of a slow model written straight from the document. */
public final class ReferenceRuns {
    private static final int RUNS = 240;
    private static final int CALLS = 360;
    private static int wrong = 0;

    public static void main(String[] args) {
        for (int seed = 1; seed <= RUNS && wrong < 20; seed++) {
            run(seed);
        }
        System.out.println(wrong == 0 ? RUNS + " runs are as due" : wrong + " answers are not as due");
        if (wrong != 0) {
            System.exit(1);
        }
    }

    private static void run(int seed) {
        Random random = new Random(seed);
        SafetyTrees real = new SafetyTrees();
        Model model = new Model();
        int mostEvents = 2 + seed % 11;
        if (seed % 3 == 0) {
            mostEvents = 12;
            growWide(random, real, model);
        }
        for (int call = 0; call < CALLS && wrong < 20; call++) {
            String text = call(random, real, model, mostEvents);
            if (text != null) {
                wrong++;
                System.out.println("seed " + seed + ", call " + call + ": " + text);
            }
        }
    }

    /** All 12 events, some common causes and large gates over them, so that bounds and many cuts are drawn too. */
    private static void growWide(Random r, SafetyTrees real, Model model) {
        while (model.eventCount() < 12) {
            long down = 1 + r.nextInt(10);
            long up = r.nextInt((int) down + 1);
            real.event(up, down);
            model.event(up, down);
            if (r.nextInt(4) == 0) {
                real.gate(1, 0);
                model.gate(1, 0);
            }
        }
        for (int tries = r.nextInt(30); tries > 0; tries--) {
            int event = anyNode(r, model);
            int other = anyNode(r, model);
            real.common(event, other, tries % 3, 10);
            model.common(event, other, tries % 3, 10);
        }
        for (int i = 0; i < 6; i++) {
            int n = 1 + r.nextInt(6);
            real.gate(2, n);
            int gate = model.gate(2, n);
            for (int k = 0; k < 14; k++) {
                int of = 1 + r.nextInt(model.nodes.size());
                real.below(gate, of);
                model.below(gate, of);
            }
        }
    }

    private static String call(Random r, SafetyTrees real, Model model, int mostEvents) {
        int gate = anyNode(r, model);
        int which = r.nextInt(100);
        if (which < 5) {
            long up = anyLong(r, 11);
            long down = anyLong(r, 11);
            if (model.eventCount() >= mostEvents && mostEvents < 12) {
                up = 11;
            }
            return differs("event(" + up + ", " + down + ")", real.event(up, down), model.event(up, down));
        }
        if (which < 10) {
            int kind = r.nextInt(30) == 0 ? r.nextInt() : r.nextInt(3);
            int n = kind == 2 || r.nextInt(20) == 0 ? r.nextInt(5) + r.nextInt(8) : 0;
            return differs("gate(" + kind + ", " + n + ")", real.gate(kind, n), model.gate(kind, n));
        }
        if (which < 45) {
            int of = anyNode(r, model);
            return differs("below(" + gate + ", " + of + ")", real.below(gate, of), model.below(gate, of));
        }
        if (which < 49) {
            long steps = r.nextInt(3) == 0 ? anyLong(r, 4200) : 1L << r.nextInt(14);
            return differs("cuts(" + gate + ", " + steps + ")", real.cuts(gate, steps), model.cuts(gate, steps));
        }
        if (which < 63) {
            int i = r.nextInt(20) == 0 ? r.nextInt() : r.nextInt(model.told.size() + 2) - 1;
            int k = r.nextInt(20) == 0 ? r.nextInt() : r.nextInt(8) - 1;
            return differs("cut(" + i + ", " + k + ")", real.cut(i, k), model.cut(i, k));
        }
        if (which < 66) {
            int side = r.nextInt(4) - 1;
            return differs("chance(" + gate + ", " + side + ")", real.chance(gate, side), model.chance(gate, side));
        }
        if (which < 68) {
            return differs("exact()", real.exact() ? 1 : 0, model.exact ? 1 : 0);
        }
        if (which < 71) {
            int other = anyNode(r, model);
            long up = anyLong(r, 11);
            long down = anyLong(r, 11);
            return differs("common(" + gate + ", " + other + ", " + up + ", " + down + ")",
                real.common(gate, other, up, down), model.common(gate, other, up, down));
        }
        if (which < 74) {
            return differs("plain(" + gate + ")", real.plain(gate), model.plain(gate));
        }
        return tracingCall(r, real, model, which);
    }

    private static String tracingCall(Random r, SafetyTrees real, Model model, int which) {
        if (which < 76) {
            int a = r.nextInt(6) - 1;
            int b = r.nextInt(7) - 1;
            int c = r.nextInt(6) - 1;
            return differs("grade(" + a + ", " + b + ", " + c + ")", real.grade(a, b, c), model.grade(a, b, c));
        }
        if (which < 80) {
            int cls = r.nextInt(7) - 1;
            return differs("goal(" + cls + ")", real.goal(cls), model.goal(cls));
        }
        int part = r.nextInt(3) == 0 ? r.nextInt(54) - 1 : 1 + r.nextInt(8);
        if (which < 90) {
            int goal = r.nextInt(model.classes.size() + 3) - 1;
            int test = r.nextInt(2) == 0 ? 0 : r.nextInt(54) - 1;
            return differs("trace(" + goal + ", " + part + ", " + test + ")",
                real.trace(goal, part, test), model.trace(goal, part, test));
        }
        if (which < 96) {
            int i = r.nextInt(20) == 0 ? r.nextInt() : r.nextInt(20) - 1;
            return differs("open(" + i + ")", real.open(i), model.open(i));
        }
        int side = r.nextInt(3) - 1;
        long due = model.cover(part, side);
        long got;
        try {
            got = real.cover(part, side);
        } catch (ArithmeticException e) {
            got = Model.THROWS;
        }
        return differs("cover(" + part + ", " + side + ")", got, due);
    }

    private static int anyNode(Random r, Model model) {
        return r.nextInt(40) == 0 ? r.nextInt() : r.nextInt(model.nodes.size() + 2);
    }

    private static long anyLong(Random r, int most) {
        switch (r.nextInt(60)) {
            case 0: return Long.MAX_VALUE;
            case 1: return Long.MIN_VALUE;
            case 2: return -1;
            default: return r.nextInt(most + 1);
        }
    }

    private static String differs(String call, long got, long due) {
        return got == due ? null : call + " answered " + got + ", due is " + due;
    }

    private static final class Node {
        int kind = -1;
        int n;
        long up;
        long down;
        final List<Integer> below = new ArrayList<>();
    }

    private static final class Common {
        int one;
        int two;
        long up;
        long down;
    }

    private static final class Model {
        static final long THROWS = Long.MIN_VALUE;
        final List<Node> nodes = new ArrayList<>();
        final List<Common> commons = new ArrayList<>();
        final List<List<Integer>> told = new ArrayList<>();
        final List<Integer> classes = new ArrayList<>();
        final List<int[]> rows = new ArrayList<>();
        boolean exact = false;

        Node node(int number) {
            return nodes.get(number - 1);
        }

        boolean isNode(int number) {
            return number >= 1 && number <= nodes.size();
        }

        boolean isGate(int number) {
            return isNode(number) && node(number).kind >= 0;
        }

        boolean isEvent(int number) {
            return isNode(number) && node(number).kind < 0;
        }

        int eventCount() {
            int found = 0;
            for (Node node : nodes) {
                found += node.kind < 0 ? 1 : 0;
            }
            return found;
        }

        int event(long up, long down) {
            if (down < 1 || down > 10 || up < 0) return -2;
            if (eventCount() == 12) return -4;
            if (up > down) return 0;
            Node made = new Node();
            made.up = up;
            made.down = down;
            nodes.add(made);
            return nodes.size();
        }

        int gate(int kind, int n) {
            boolean good = kind == 2 ? n >= 1 && n <= 10 : (kind == 0 || kind == 1) && n == 0;
            if (!good) return -2;
            if (nodes.size() - eventCount() == 20) return -4;
            Node made = new Node();
            made.kind = kind;
            made.n = n;
            nodes.add(made);
            return nodes.size();
        }

        TreeSet<Integer> under(int number) {
            TreeSet<Integer> seen = new TreeSet<>();
            collect(number, seen);
            return seen;
        }

        void collect(int number, TreeSet<Integer> seen) {
            for (int below : node(number).below) {
                if (seen.add(below)) {
                    collect(below, seen);
                }
            }
        }

        List<Integer> eventsUnder(int number) {
            List<Integer> found = new ArrayList<>();
            for (int under : under(number)) {
                if (isEvent(under)) {
                    found.add(under);
                }
            }
            return found;
        }

        int below(int gate, int of) {
            if (!isGate(gate) || !isNode(of)) return -1;
            if (node(gate).below.contains(of)) return -3;
            if (node(gate).below.size() == 10) return -4;
            if (gate == of || under(of).contains(gate)) return 0;
            node(gate).below.add(of);
            return 1;
        }

        boolean isTrue(int number, boolean[] happens, int[] memo) {
            if (memo[number] == 0) {
                Node node = node(number);
                boolean answer = happens[number];
                if (node.kind >= 0) {
                    int votes = 0;
                    for (int below : node.below) {
                        votes += isTrue(below, happens, memo) ? 1 : 0;
                    }
                    answer = node.kind == 0 ? votes == node.below.size() : node.kind == 1 ? votes > 0 : votes >= node.n;
                }
                memo[number] = answer ? 1 : 2;
            }
            return memo[number] == 1;
        }

        /** Place s tells of the set whose events are the bits of s, counted through the events under the gate. */
        boolean[] truths(int gate, List<Integer> events) {
            boolean[] truths = new boolean[1 << events.size()];
            for (int set = 0; set < truths.length; set++) {
                boolean[] happens = new boolean[nodes.size() + 1];
                for (int i = 0; i < events.size(); i++) {
                    happens[events.get(i)] = (set >> i & 1) == 1;
                }
                truths[set] = isTrue(gate, happens, new int[nodes.size() + 1]);
            }
            return truths;
        }

        int cuts(int gate, long steps) {
            if (!isGate(gate) || steps < 0) return -2;
            told.clear();
            List<Integer> events = eventsUnder(gate);
            if ((1L << events.size()) > steps) return -1;
            boolean[] truths = truths(gate, events);
            for (int set = 0; set < truths.length; set++) {
                boolean minimal = truths[set];
                for (int less = set; less > 0 && minimal; ) {
                    less = (less - 1) & set;
                    minimal = !truths[less];
                }
                if (minimal) {
                    List<Integer> cut = new ArrayList<>();
                    for (int i = 0; i < events.size(); i++) {
                        if ((set >> i & 1) == 1) cut.add(events.get(i));
                    }
                    told.add(cut);
                }
            }
            told.sort(Comparator.<List<Integer>>comparingInt(List::size).thenComparing(Model::byPlaces));
            return told.size();
        }

        static int byPlaces(List<Integer> one, List<Integer> two) {
            for (int i = 0; i < one.size(); i++) {
                if (!one.get(i).equals(two.get(i))) return one.get(i).compareTo(two.get(i));
            }
            return 0;
        }

        int cut(int i, int k) {
            boolean there = i >= 0 && i < told.size() && k >= 0 && k < told.get(i).size();
            return there ? told.get(i).get(k) : 0;
        }

        int plain(int gate) {
            if (!isGate(gate)) return -2;
            int found = 0;
            for (boolean truth : truths(gate, eventsUnder(gate))) {
                found += truth ? 1 : 0;
            }
            return found;
        }

        int common(int event, int other, long up, long down) {
            if (!isEvent(event) || !isEvent(other)) return -1;
            if (event == other || down < 1 || down > 10 || up < 0 || up > down) return -2;
            if (commons.size() == 4) return -4;
            Common made = new Common();
            made.one = event;
            made.two = other;
            made.up = up;
            made.down = down;
            commons.add(made);
            return commons.size();
        }

        long chance(int gate, int side) {
            if (!isGate(gate)) return -1;
            List<Integer> events = eventsUnder(gate);
            List<Common> causes = new ArrayList<>();
            for (Common common : commons) {
                if (events.contains(common.one) || events.contains(common.two)) causes.add(common);
            }
            exact = events.size() + causes.size() <= 14;
            return exact ? exactChance(gate, events, causes, side)
                : lowest(BigInteger.valueOf(bound(gate, new long[nodes.size() + 1])), BigInteger.valueOf(2520), side);
        }

        /** Goes through every way in which events of their own and causes happen or not. */
        long exactChance(int gate, List<Integer> events, List<Common> causes, int side) {
            boolean[] truths = truths(gate, events);
            int all = events.size() + causes.size();
            BigInteger sum = BigInteger.ZERO;
            BigInteger whole = BigInteger.ONE;
            for (int event : events) whole = whole.multiply(BigInteger.valueOf(node(event).down));
            for (Common cause : causes) whole = whole.multiply(BigInteger.valueOf(cause.down));
            for (int way = 0; way < 1 << all; way++) {
                int set = way & ((1 << events.size()) - 1);
                BigInteger weight = BigInteger.ONE;
                for (int i = 0; i < events.size(); i++) {
                    Node event = node(events.get(i));
                    weight = weight.multiply(BigInteger.valueOf((way >> i & 1) == 1 ? event.up : event.down - event.up));
                }
                for (int c = 0; c < causes.size(); c++) {
                    Common cause = causes.get(c);
                    boolean happens = (way >> (events.size() + c) & 1) == 1;
                    weight = weight.multiply(BigInteger.valueOf(happens ? cause.up : cause.down - cause.up));
                    if (happens && events.contains(cause.one)) set |= 1 << events.indexOf(cause.one);
                    if (happens && events.contains(cause.two)) set |= 1 << events.indexOf(cause.two);
                }
                if (truths[set]) sum = sum.add(weight);
            }
            return lowest(sum, whole, side);
        }

        /** The memo holds a bound and one more, so that 0 is 'not known yet'. */
        long bound(int number, long[] memo) {
            if (memo[number] == 0) {
                Node node = node(number);
                long answer;
                if (node.kind < 0) {
                    answer = 2520 * node.up / node.down;
                    for (Common common : commons) {
                        if (common.one == number || common.two == number) answer += 2520 * common.up / common.down;
                    }
                } else {
                    long least = 2520;
                    long sum = 0;
                    for (int below : node.below) {
                        least = Math.min(least, bound(below, memo));
                        sum += bound(below, memo);
                    }
                    long share = node.n == 0 ? 0 : sum % node.n == 0 ? sum / node.n : sum / node.n + 1;
                    answer = node.kind == 0 ? least : node.kind == 1 ? sum : share;
                }
                memo[number] = Math.min(answer, 2520) + 1;
            }
            return memo[number] - 1;
        }

        static long lowest(BigInteger above, BigInteger beneath, int side) {
            return (side == 0 ? above : beneath).divide(above.gcd(beneath)).longValueExact();
        }

        int grade(int a, int b, int c) {
            if (a < 0 || a > 3 || b < 0 || b > 4 || c < 0 || c > 3) return -2;
            return a * b * c == 0 ? 0 : Math.max(0, a + b + c - 6);
        }

        int goal(int cls) {
            if (cls < 0 || cls > 4) return -2;
            if (classes.size() == 30) return -4;
            classes.add(cls);
            return classes.size();
        }

        int trace(int goal, int part, int test) {
            if (goal < 1 || goal > classes.size()) return -1;
            if (part < 1 || part > 50 || test < 0 || test > 50) return -2;
            for (int[] row : rows) {
                if (row[0] == goal && row[1] == part && row[2] == test) return -3;
            }
            if (rows.size() == 100) return -4;
            rows.add(new int[] {goal, part, test});
            return rows.size();
        }

        int open(int i) {
            List<Integer> open = new ArrayList<>();
            for (int goal = 1; goal <= classes.size(); goal++) {
                boolean tested = false;
                for (int[] row : rows) tested |= row[0] == goal && row[2] > 0;
                if (classes.get(goal - 1) > 0 && !tested) open.add(goal);
            }
            for (int part = 1; part <= 50; part++) {
                boolean tested = false;
                boolean any = false;
                for (int[] row : rows) {
                    any |= row[1] == part;
                    tested |= row[1] == part && row[2] > 0;
                }
                if (any && !tested) open.add(-part);
            }
            return i >= 0 && i < open.size() ? open.get(i) : 0;
        }

        long cover(int part, int side) {
            long all = 0;
            long tested = 0;
            for (int[] row : rows) {
                all += row[1] == part ? 1 : 0;
                tested += row[1] == part && row[2] > 0 ? 1 : 0;
            }
            return all == 0 ? THROWS : lowest(BigInteger.valueOf(tested), BigInteger.valueOf(all), side);
        }
    }
}

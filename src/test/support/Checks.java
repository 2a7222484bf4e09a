/** What the tests of promises and boundaries share: sentences, each with its checks, and small trees. */
abstract class Checks {
    static final int AND = 0;
    static final int OR = 1;
    static final int VOTES = 2;

    private static int sentences = 0;
    private static int wrong = 0;
    private static String tested = "";

    /** A sentence of the document, and the test that fails if it is broken. */
    static void sentence(String text, Runnable test) {
        sentences++;
        tested = text;
        try {
            test.run();
        } catch (RuntimeException e) {
            wrong++;
            System.out.println("[" + text + "] threw " + e);
        }
    }

    static void end() {
        System.out.println(wrong == 0 ? sentences + " sentences hold" : wrong + " answers are not as due");
        if (wrong != 0) {
            System.exit(1);
        }
    }

    static void due(String what, long got, long want) {
        if (got != want) {
            wrong++;
            System.out.println("[" + tested + "] " + what + " answered " + got + ", due is " + want);
        }
    }

    static void dueText(String what, String got, String want) {
        if (!got.equals(want)) {
            wrong++;
            System.out.println("[" + tested + "] " + what + " shows\n  " + got + "\ndue is\n  " + want);
        }
    }

    static void dueExact(String what, SafetyTrees x, boolean want) {
        due(what + ": exact()", x.exact() ? 1 : 0, want ? 1 : 0);
    }

    static void dueChance(String what, SafetyTrees x, int gate, long above, long beneath) {
        due(what + ": chance above", x.chance(gate, 0), above);
        due(what + ": chance beneath", x.chance(gate, 1), beneath);
    }

    /** The cut has just these events. */
    static void dueCut(String what, SafetyTrees x, int i, int... events) {
        for (int k = 0; k < events.length; k++) {
            due(what + ": cut(" + i + ", " + k + ")", x.cut(i, k), events[k]);
        }
        due(what + ": cut(" + i + ", " + events.length + ")", x.cut(i, events.length), 0);
    }

    static void dueNoneTold(String what, SafetyTrees x) {
        due(what + ": cut(0, 0)", x.cut(0, 0), 0);
        due(what + ": cut(1, 0)", x.cut(1, 0), 0);
    }

    static void dueCover(String what, SafetyTrees x, int part, long above, long beneath) {
        due(what + ": cover above", x.cover(part, 0), above);
        due(what + ": cover beneath", x.cover(part, 1), beneath);
    }

    /** Any other exception goes through and is told as wrong. */
    static void dueNoCover(String what, SafetyTrees x, int part, int side) {
        boolean thrown = false;
        try {
            x.cover(part, side);
        } catch (ArithmeticException e) {
            thrown = e.getClass() == ArithmeticException.class;
        }
        due(what + ": cover(" + part + ", " + side + ") throws", thrown ? 1 : 0, 1);
    }

    /** Events 1 .. count, each with the chance 1 / 2. */
    static SafetyTrees withEvents(int count) {
        SafetyTrees x = new SafetyTrees();
        for (int i = 1; i <= count; i++) {
            due("event " + i, x.event(1, 2), i);
        }
        return x;
    }

    static int gateOver(SafetyTrees x, int kind, int n, int... below) {
        int gate = x.gate(kind, n);
        for (int node : below) {
            due("below(" + gate + ", " + node + ")", x.below(gate, node), 1);
        }
        return gate;
    }

    /** A gate over two of its kind, over the nodes first .. last: 11 or 12 are more than one gate takes. */
    static int gateOverAll(SafetyTrees x, int kind, int first, int last) {
        int low = x.gate(kind, 0);
        int high = x.gate(kind, 0);
        int top = gateOver(x, kind, 0, low, high);
        for (int node = first; node <= last; node++) {
            due("below, node " + node, x.below(node < first + 6 ? low : high, node), 1);
        }
        return top;
    }

    /** Numbers of which none is from 1 to count, some of them one of these once they are cut to fewer bits. */
    static int[] noneOf(int count) {
        return new int[] {
            Integer.MIN_VALUE, Integer.MIN_VALUE + 1, -65535, -255, -63, -31, -count, -1, 0,
            count + 1, count + 2, count + 32, count + 64, count + 256, count + 65536, Integer.MAX_VALUE
        };
    }

    /** The long that is the small number once it is cut to an int. */
    static long wrapsTo(long small) {
        return (1L << 32) + small;
    }
}

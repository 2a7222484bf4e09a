/** Boundaries of grades, goals and rows: promises 10 to 14, and their terms. */
public final class GoalBoundaries extends Checks {
    private static final int[] FAR = {
        Integer.MIN_VALUE, Integer.MIN_VALUE + 1, -65535, -255, -2, 257, 65537, Integer.MAX_VALUE - 1, Integer.MAX_VALUE
    };

    public static void main(String[] args) {
        sentence("grade: -2 a grade is none", GoalBoundaries::gradesThatAreNone);
        sentence("grade: 0 if one of them is 0", GoalBoundaries::gradesOfZero);
        sentence("grade: 0 if their sum is below 7", GoalBoundaries::sumsBelowSeven);
        sentence("grade: otherwise the sum less 6", GoalBoundaries::sumsFromSevenOn);
        sentence("grade: all there are", GoalBoundaries::allGrades);

        sentence("goal: -2 the CLASS is none", GoalBoundaries::classesOfGoals);
        sentence("goal: -4 there are 30", GoalBoundaries::thirtyGoals);
        sentence("goal: -2, then -4", GoalBoundaries::goalRefusalsInOrder);

        sentence("trace: -1 there is no goal", GoalBoundaries::rowsOfNoGoal);
        sentence("trace: -2 part is none, 1 .. 50", GoalBoundaries::partsOfRows);
        sentence("trace: -2 test is none, 1 .. 50, or 0 for none", GoalBoundaries::testsOfRows);
        sentence("trace: -3 there is this row", GoalBoundaries::eachRowOnce);
        sentence("trace: -4 there are 100", GoalBoundaries::hundredRows);
        sentence("trace: -1, then -2, then -3, then -4", GoalBoundaries::traceRefusalsInOrder);

        sentence("open: the i-th (from 0), 0 if there is none", GoalBoundaries::placesOfOpenOnes);
        sentence("open: nothing is", GoalBoundaries::nothingOpen);
        sentence("open: goals of a CLASS above 0", GoalBoundaries::openGoalsByClass);
        sentence("open: goals without a ROW with a test", GoalBoundaries::openGoalsByRows);
        sentence("open: parts of ROWS with no test at all", GoalBoundaries::openPartsByRows);
        sentence("open: by numbers, goals, then parts", GoalBoundaries::openOnesByNumbers);
        sentence("open: everything is", GoalBoundaries::everythingOpen);

        sentence("cover: ArithmeticException when it has none", GoalBoundaries::partsWithoutRows);
        sentence("cover: side 0 what is above, others what is below", GoalBoundaries::sidesOfAShare);
        sentence("cover: in lowest terms", GoalBoundaries::lowestTermsOfShares);
        sentence("cover: ROWS of a part, all 100 of them", GoalBoundaries::allRowsOfAPart);
        end();
    }

    private static void gradesThatAreNone() {
        SafetyTrees x = new SafetyTrees();
        due("a 3", x.grade(3, 1, 3), 1);
        due("a 4", x.grade(4, 1, 3), -2);
        due("a 0", x.grade(0, 1, 1), 0);
        due("a -1", x.grade(-1, 1, 1), -2);
        due("b 4", x.grade(1, 4, 2), 1);
        due("b 5", x.grade(1, 5, 2), -2);
        due("b 0", x.grade(1, 0, 1), 0);
        due("b -1", x.grade(1, -1, 1), -2);
        due("c 3", x.grade(1, 3, 3), 1);
        due("c 4", x.grade(1, 3, 4), -2);
        due("c 0", x.grade(1, 1, 0), 0);
        due("c -1", x.grade(1, 1, -1), -2);
        for (int far : FAR) {
            due("a " + far, x.grade(far, 4, 3), -2);
            due("b " + far, x.grade(3, far, 3), -2);
            due("c " + far, x.grade(3, 4, far), -2);
            due("all " + far, x.grade(far, far, far), -2);
        }
        due("none, and one of them is 0", x.grade(4, 0, 0), -2);
        due("none, and one of them is 0", x.grade(0, 5, 0), -2);
        due("none, and one of them is 0", x.grade(0, 0, -1), -2);
        due("a sum that wraps to 7", x.grade(Integer.MAX_VALUE, Integer.MAX_VALUE, 9), -2);
        due("none, and a sum of 7", x.grade(-1, 4, 4), -2);
    }

    private static void gradesOfZero() {
        SafetyTrees x = new SafetyTrees();
        due("a 0, sum 7", x.grade(0, 4, 3), 0);
        due("b 0, sum 6", x.grade(3, 0, 3), 0);
        due("c 0, sum 7", x.grade(3, 4, 0), 0);
        due("all 0", x.grade(0, 0, 0), 0);
        due("none is 0", x.grade(1, 4, 3), 2);
        due("none is 0", x.grade(3, 4, 1), 2);
    }

    private static void sumsBelowSeven() {
        SafetyTrees x = new SafetyTrees();
        due("3", x.grade(1, 1, 1), 0);
        due("6", x.grade(2, 2, 2), 0);
        due("6", x.grade(1, 4, 1), 0);
        due("6", x.grade(3, 1, 2), 0);
        due("7", x.grade(2, 3, 2), 1);
        due("7", x.grade(1, 4, 2), 1);
        due("7", x.grade(3, 1, 3), 1);
    }

    private static void sumsFromSevenOn() {
        SafetyTrees x = new SafetyTrees();
        due("7", x.grade(3, 3, 1), 1);
        due("8", x.grade(3, 2, 3), 2);
        due("9", x.grade(3, 3, 3), 3);
        due("9", x.grade(2, 4, 3), 3);
        due("10", x.grade(3, 4, 3), 4);
    }

    /** Written out by a, then b; each text has c from 0 to 3. */
    private static void allGrades() {
        String[] classes = {
            "0000", "0000", "0000", "0000", "0000",
            "0000", "0000", "0000", "0001", "0012",
            "0000", "0000", "0001", "0012", "0123",
            "0000", "0001", "0012", "0123", "0234"
        };
        SafetyTrees x = new SafetyTrees();
        for (int a = 0; a <= 3; a++) {
            for (int b = 0; b <= 4; b++) {
                for (int c = 0; c <= 3; c++) {
                    int want = classes[5 * a + b].charAt(c) - '0';
                    due("grade(" + a + ", " + b + ", " + c + ")", x.grade(a, b, c), want);
                }
            }
        }
    }

    private static void classesOfGoals() {
        SafetyTrees x = new SafetyTrees();
        due("class -1", x.goal(-1), -2);
        due("class 5", x.goal(5), -2);
        for (int far : FAR) {
            due("class " + far, x.goal(far), -2);
        }
        due("none is there", x.open(0), 0);
        for (int cls = 0; cls <= 4; cls++) {
            due("class " + cls, x.goal(cls), cls + 1);
        }
        due("the first that is open", x.open(0), 2);
        due("the last that is open", x.open(3), 5);
    }

    private static void thirtyGoals() {
        SafetyTrees x = new SafetyTrees();
        for (int i = 1; i <= 29; i++) {
            due("goal " + i, x.goal(i % 5), i);
        }
        due("goal 30", x.goal(4), 30);
        due("goal 31", x.goal(4), -4);
        due("goal 31 of class 0", x.goal(0), -4);
        due("goal 30 is there", x.trace(30, 1, 0), 1);
        due("goal 31 is not", x.trace(31, 1, 0), -1);
        due("24 are open", x.open(24), 30);
        due("no goal after it", x.open(25), -1);
    }

    private static void goalRefusalsInOrder() {
        SafetyTrees x = new SafetyTrees();
        for (int i = 1; i <= 30; i++) {
            due("class -1 before goal " + i, x.goal(-1), -2);
            due("goal " + i, x.goal(1), i);
        }
        due("30: class -1", x.goal(-1), -2);
        due("30: class 5", x.goal(5), -2);
        due("30: class 4", x.goal(4), -4);
        due("30: class 0", x.goal(0), -4);
    }

    private static SafetyTrees withGoals(int count) {
        SafetyTrees x = new SafetyTrees();
        for (int i = 1; i <= count; i++) {
            due("goal " + i, x.goal(1), i);
        }
        return x;
    }

    private static void rowsOfNoGoal() {
        SafetyTrees x = new SafetyTrees();
        due("no goals at all", x.trace(1, 1, 1), -1);
        x.goal(1);
        x.goal(0);
        for (int goal : noneOf(2)) {
            due("goal " + goal, x.trace(goal, 1, 1), -1);
        }
        due("the first goal", x.trace(1, 1, 1), 1);
        due("the last goal", x.trace(2, 1, 1), 2);
        due("goal 3 once it is there", x.trace(x.goal(1), 1, 1), 3);
    }

    private static void partsOfRows() {
        SafetyTrees x = withGoals(1);
        due("part 0", x.trace(1, 0, 1), -2);
        due("part -1", x.trace(1, -1, 1), -2);
        due("part 51", x.trace(1, 51, 1), -2);
        for (int far : FAR) {
            due("part " + far, x.trace(1, far, 1), -2);
        }
        for (int part = 1; part <= 50; part++) {
            due("part " + part, x.trace(1, part, 1), part);
        }
    }

    private static void testsOfRows() {
        SafetyTrees x = withGoals(1);
        due("test -1", x.trace(1, 1, -1), -2);
        due("test 51", x.trace(1, 1, 51), -2);
        for (int far : FAR) {
            due("test " + far, x.trace(1, 1, far), -2);
        }
        for (int test = 0; test <= 50; test++) {
            due("test " + test, x.trace(1, 1, test), test + 1);
        }
        due("50 of 51 rows", x.cover(1, 0), 50);
        due("50 of 51 rows", x.cover(1, 1), 51);
    }

    private static void eachRowOnce() {
        SafetyTrees x = withGoals(2);
        due("a row", x.trace(1, 1, 2), 1);
        due("this row", x.trace(1, 1, 2), -3);
        due("another goal", x.trace(2, 1, 2), 2);
        due("another part", x.trace(1, 2, 2), 3);
        due("another test", x.trace(1, 1, 1), 4);
        due("no test", x.trace(1, 1, 0), 5);
        due("the first again", x.trace(1, 1, 2), -3);
        due("the one before the last again", x.trace(1, 1, 1), -3);
        due("the last again", x.trace(1, 1, 0), -3);
        due("part and test the other way", x.trace(1, 2, 1), 6);
        due("goal and part the other way", x.trace(2, 1, 0), 7);
    }

    private static void hundredRows() {
        SafetyTrees x = withGoals(2);
        for (int row = 1; row <= 99; row++) {
            due("row " + row, x.trace(1 + row % 2, 1 + row / 2, 0), row);
        }
        due("row 100", x.trace(1, 50, 50), 100);
        due("row 101", x.trace(2, 1, 1), -4);
        due("row 101 without a test", x.trace(1, 1, 0), -4);
        due("row 100 is there", x.cover(50, 0), 1);
        due("row 101 is not", x.cover(1, 0), 0);
        due("goals have room", x.goal(1), 3);
    }

    private static void traceRefusalsInOrder() {
        SafetyTrees x = withGoals(2);
        due("no goal, part 0", x.trace(3, 0, 1), -1);
        due("no goal, test 51", x.trace(0, 1, 51), -1);
        for (int row = 1; row <= 100; row++) {
            due("row " + row, x.trace(1 + row % 2, 1 + (row - 1) / 2, 0), row);
            due("this row is there", x.trace(1 + row % 2, 1 + (row - 1) / 2, 0), -3);
        }
        due("full: no goal", x.trace(3, 1, 0), -1);
        due("full: no goal, part 51", x.trace(0, 51, 0), -1);
        due("full: part 0", x.trace(1, 0, 0), -2);
        due("full: part 51", x.trace(1, 51, 0), -2);
        due("full: test -1", x.trace(1, 1, -1), -2);
        due("full: test 51", x.trace(1, 1, 51), -2);
        due("full: this row is there", x.trace(1, 1, 0), -3);
        due("full: a new row", x.trace(1, 1, 50), -4);
    }

    private static void placesOfOpenOnes() {
        SafetyTrees x = withGoals(2);
        x.trace(1, 7, 0);
        due("the first", x.open(0), 1);
        due("the second", x.open(1), 2);
        due("the last", x.open(2), -7);
        due("after the last", x.open(3), 0);
        due("before the first", x.open(-1), 0);
        for (int far : FAR) {
            due("i " + far, x.open(far), 0);
        }
    }

    private static void nothingOpen() {
        SafetyTrees x = new SafetyTrees();
        due("no goals", x.open(0), 0);
        x.goal(0);
        due("a goal of class 0", x.open(0), 0);
        x.goal(1);
        due("a goal of class 1", x.open(0), 2);
        x.trace(2, 1, 1);
        due("a goal with a test", x.open(0), 0);
        due("nor a second", x.open(1), 0);
    }

    private static void openGoalsByClass() {
        SafetyTrees x = new SafetyTrees();
        for (int cls = 4; cls >= 0; cls--) {
            x.goal(cls);
        }
        for (int i = 0; i < 4; i++) {
            due("goal " + (i + 1) + " of class " + (4 - i), x.open(i), i + 1);
        }
        due("not the goal of class 0", x.open(4), 0);
        x.trace(5, 3, 0);
        due("not with a row either, but its part", x.open(4), -3);
        due("no more", x.open(5), 0);
    }

    private static void openGoalsByRows() {
        SafetyTrees x = withGoals(3);
        x.trace(1, 1, 0);
        x.trace(1, 1, 1);
        due("a test of one of its rows", x.open(0), 2);
        x.trace(2, 1, 0);
        due("a row without, a test of its part for another", x.open(0), 2);
        x.trace(3, 2, 50);
        due("test 50 of goal 3", x.open(0), 2);
        due("no more", x.open(1), 0);
        x.trace(2, 2, 1);
        due("none is open", x.open(0), 0);
    }

    private static void openPartsByRows() {
        SafetyTrees x = new SafetyTrees();
        x.goal(0);
        x.goal(0);
        due("no rows, no parts", x.open(0), 0);
        x.trace(1, 50, 0);
        x.trace(2, 50, 0);
        x.trace(1, 1, 0);
        x.trace(1, 2, 3);
        due("part 1", x.open(0), -1);
        due("part 50, once", x.open(1), -50);
        due("not part 2, which has a test, nor others", x.open(2), 0);
        x.trace(2, 50, 1);
        due("a test for one of its goals", x.open(0), -1);
        due("is enough", x.open(1), 0);
        x.trace(1, 1, 50);
        due("no part", x.open(0), 0);
    }

    private static void openOnesByNumbers() {
        SafetyTrees x = withGoals(12);
        for (int part : new int[] {20, 3, 50, 10, 1}) {
            x.trace(12 - part / 5, part, 0);
        }
        for (int i = 0; i < 12; i++) {
            due("goal " + (i + 1), x.open(i), i + 1);
        }
        due("part 1", x.open(12), -1);
        due("part 3", x.open(13), -3);
        due("part 10", x.open(14), -10);
        due("part 20", x.open(15), -20);
        due("part 50", x.open(16), -50);
        due("no more", x.open(17), 0);
    }

    private static void everythingOpen() {
        SafetyTrees x = withGoals(30);
        for (int part = 1; part <= 50; part++) {
            due("part " + part, x.trace(1 + part % 30, part, 0), part);
        }
        for (int i = 0; i < 30; i++) {
            due("goal " + (i + 1), x.open(i), i + 1);
        }
        for (int i = 0; i < 50; i++) {
            due("part " + (i + 1), x.open(30 + i), -1 - i);
        }
        due("no more", x.open(80), 0);
        x.trace(30, 50, 50);
        due("one goal less", x.open(29), -1);
        due("one part less", x.open(77), -49);
        due("no more then", x.open(78), 0);
    }

    private static void partsWithoutRows() {
        SafetyTrees x = new SafetyTrees();
        dueNoCover("new", x, 1, 0);
        x.goal(1);
        dueNoCover("no rows", x, 1, 1);
        dueNoCover("no rows", x, 0, 0);
        x.trace(1, 2, 0);
        x.trace(1, 49, 1);
        dueNoCover("one before part 2", x, 1, 0);
        dueNoCover("one after part 2", x, 3, 1);
        dueNoCover("one after part 49", x, 50, 0);
        for (int part : noneOf(50)) {
            dueNoCover("no such part", x, part, 0);
            dueNoCover("no such part", x, part, 1);
        }
        dueNoCover("thrown again", x, 1, 0);
        dueCover("part 2", x, 2, 0, 1);
        dueCover("part 49", x, 49, 1, 1);
        due("a refused row", x.trace(1, 1, 51), -2);
        dueNoCover("after a refused row", x, 1, 0);
        due("a row", x.trace(1, 1, 0), 3);
        dueCover("part 1 now", x, 1, 0, 1);
    }

    private static void sidesOfAShare() {
        SafetyTrees x = withGoals(1);
        x.trace(1, 1, 0);
        x.trace(1, 1, 1);
        x.trace(1, 1, 2);
        due("side 0", x.cover(1, 0), 2);
        for (int side : new int[] {1, -1, 2, 256, 65536, Integer.MIN_VALUE, Integer.MAX_VALUE}) {
            due("side " + side, x.cover(1, side), 3);
        }
        due("side 0 again", x.cover(1, 0), 2);
    }

    private static void lowestTermsOfShares() {
        SafetyTrees x = withGoals(4);
        x.trace(1, 50, 0);
        dueCover("0 of 1", x, 50, 0, 1);
        x.trace(2, 50, 0);
        x.trace(3, 50, 0);
        dueCover("0 of 3", x, 50, 0, 1);
        x.trace(4, 50, 1);
        dueCover("1 of 4", x, 50, 1, 4);
        x.trace(4, 50, 2);
        x.trace(3, 50, 1);
        dueCover("3 of 6", x, 50, 1, 2);
        x.trace(2, 50, 1);
        x.trace(1, 50, 1);
        x.trace(1, 50, 50);
        dueCover("6 of 9", x, 50, 2, 3);
        x.trace(1, 1, 1);
        x.trace(2, 1, 1);
        dueCover("2 of 2", x, 1, 1, 1);
        dueCover("others do not count", x, 50, 2, 3);
    }

    private static void allRowsOfAPart() {
        SafetyTrees x = withGoals(3);
        for (int test = 1; test <= 49; test++) {
            x.trace(1, 25, test);
            x.trace(2, 25, test);
        }
        dueCover("98 of 98", x, 25, 1, 1);
        due("row 99", x.trace(3, 25, 50), 99);
        due("row 100", x.trace(3, 25, 0), 100);
        dueCover("99 of 100", x, 25, 99, 100);
        due("row 101", x.trace(2, 25, 0), -4);
        dueCover("99 of 100 still", x, 25, 99, 100);
        SafetyTrees none = withGoals(30);
        for (int goal = 1; goal <= 30; goal++) {
            none.trace(goal, 1, 0);
        }
        dueCover("0 of 30", none, 1, 0, 1);
        for (int goal = 1; goal <= 20; goal++) {
            none.trace(goal, 1, goal);
        }
        dueCover("20 of 50", none, 1, 2, 5);
    }
}

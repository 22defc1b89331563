/** The sentences of the document on merging that name a boundary, but for lists. */
public final class MergeTest {
    private static final String IAE = Run.IAE;
    private static final String ISE = Run.ISE;

    public static void main(String[] args) {
        ways();
        waysWithSixty();
        bases();
        numbers();
        counters();
        sets();
        conflictsToldOrNot();
        conflictsWithSixty();
        settled();
        parentsAndComing();
        Report.end();
    }

    private static void ways() {
        new Run("if b is an ancestor of a, nothing is done (way 0)").rows("put(0, 1) = 1", "put(0, 2) = 2",
                "undo() = 1", "merge(0, 0) = 0", "merge(1, 0) = 0", "merge(2, 1) = 0", "merge(3, 2) = 0",
                "figure(0) = 1", "figure(1) = 3", "figure(3) = 1", "figure(5) = 0");
        new Run("Otherwise, if a is an ancestor of b, one comes to b (way 1)").rows("put(0, 1) = 1", "turn(1) = 0",
                "put(0, 2) = 2", "undo() = 0", "merge(0, 0) = 1", "figure(0) = 1", "figure(5) = 1", "figure(1) = 3",
                "figure(3) = 0", "figure(4) = 1");
        for (int side = 0; side <= 2; side++) {
            new Run("way 1 is gone for every side").rows("put(0, 1) = 1", "turn(1) = 0", "merge(0, " + side + ") = 1",
                    "figure(0) = 1", "conflicts() = 0", "figure(1) = 2");
            new Run("Otherwise (way 2), and a conflict is no matter of the way").rows("put(0, 1) = 1", "turn(1) = 0",
                    "put(1, 1) = 2", "merge(0, " + side + ") = 2", "figure(0) = 3", "figure(1) = 4",
                    "value(3, 0, 0) = 1", "value(3, 1, 0) = 1", "merge(0, 0) = 0", "turn(0) = 1", "merge(1, 0) = 1");
        }
        new Run("way 2 makes a revision also where all fields are those of a").rows("put(0, 1) = 1", "turn(1) = 0",
                "put(0, 1) = 2", "merge(0, 0) = 2", "figure(0) = 3", "differ(2, 3) = 0");
    }

    private static void waysWithSixty() {
        new Run("way 0 and way 1 make no revision, so 60 are no matter").rows("crowd", "undo() = 58",
                "merge(1, 0) = 0", "figure(3) = 1", "figure(0) = 58", "turn(1) = 0", "merge(0, 0) = 1",
                "figure(0) = 58", "figure(1) = 60", "conflicts() = 0");
    }

    private static void bases() {
        String name = "the BASE is the ancestor of both with the greatest number";
        new Run(name + ", not revision 0").rows("add(2, 10) = 1", "add(2, 10) = 2", "point(1)", "add(2, 1) = 3",
                "turn(1) = 2", "add(2, 2) = 4", "base(0) = 2", "merge(0, 0) = 2", "value(5, 2, 0) = 23");
        new Run(name + ", be it made on the way that was merged in").rows("put(0, 1) = 1", "turn(1) = 0",
                "add(2, 10) = 2", "point(2)", "merge(0, 0) = 2", "turn(0) = 1", "merge(2, 0) = 2", "base(1) = 2",
                "turn(1) = 3", "base(0) = 2", "merge(0, 0) = 2", "value(5, 2, 0) = 10");
        new Run(name + ", also if the other one has more ancestors").rows("add(2, 10) = 1", "add(2, 10) = 2",
                "add(2, 10) = 3", "turn(1) = 0", "put(0, 1) = 4", "point(2)", "merge(0, 0) = 2", "turn(0) = 3",
                "merge(2, 0) = 2", "base(1) = 4", "merge(1, 0) = 2", "value(7, 2, 0) = 60");
        new Run(name + ", which prune keeps").rows("put(1, 1) = 1", "put(1, 2) = 2", "go(0)", "add(2, 10) = 3",
                "point(1)", "add(2, 1) = 4", "turn(1) = 3", "add(2, 2) = 5", "prune() = 2", "base(0) = 1",
                "merge(0, 0) = 2", "value(4, 2, 0) = 13");
    }

    /** All ways in which a number can be 0, 1 or 2 in the base and on both ways. */
    private static void numbers() {
        for (int f = 0; f <= 1; f++) {
            for (int xyz = 0; xyz < 27; xyz++) {
                for (int side = 0; side <= 2; side++) {
                    number(f, xyz / 9, xyz / 3 % 3, xyz % 3, side);
                }
            }
        }
    }

    private static void number(int f, int x, int y, int z, int side) {
        String name = "the one of y and z that differs from x ..: x, y, z are " + x + ", " + y + ", " + z;
        Run run = new Run(name);
        run.ask("put(" + f + ", " + x + ")");
        twoWays(run, "put(" + f + ", " + z + ")", "put(" + f + ", " + y + ")");
        boolean conflict = y != x && z != x && y != z;
        run.due("merge(1, " + side + ")", conflict && side == 0 ? ISE : "2");
        run.due("conflicts()", conflict ? "" + (1 << f) : "0");
        int due = conflict ? (side == 2 ? z : y) : (y != x ? y : z);
        run.due("value(" + run.ask("figure(0)") + ", " + f + ", 0)", "" + due);
    }

    private static void counters() {
        for (int f = 2; f <= 3; f++) {
            for (int xyz = 0; xyz < 27; xyz++) {
                counter(f, xyz / 9 - 1, xyz / 3 % 3 - 1, xyz % 3 - 1);
            }
        }
        new Run("a counter is y + z - x in any case: beyond ints").rows("add(3, " + Run.MIN + ") = 1", "point(1)",
                "add(3, " + Run.MIN + ") = 2", "turn(1) = 1", "add(3, " + Run.MIN + ") = 3", "merge(0, 0) = 2",
                "value(4, 3, 0) = -6442450944");
    }

    private static void counter(int f, int x, int more, int others) {
        Run run = new Run("a counter is y + z - x in any case: from " + x + " by " + more + " and by " + others);
        run.ask("add(" + f + ", " + x + ")");
        twoWays(run, "add(" + f + ", " + others + ")", "add(" + f + ", " + more + ")");
        run.rows("merge(1, 0) = 2", "conflicts() = 0");
        run.due("value(" + run.ask("figure(0)") + ", " + f + ", 0)", "" + (x + more + others));
    }

    /** All ways in which an element can be in x, y and z, for each element of both sets. */
    private static void sets() {
        for (int f = 4; f <= 5; f++) {
            for (int e = 0; e <= 31; e++) {
                for (int in = 0; in < 8; in++) {
                    element(f, e, (in & 4) != 0, (in & 2) != 0, (in & 1) != 0);
                }
            }
        }
    }

    private static void element(int f, int e, boolean inX, boolean inY, boolean inZ) {
        Run run = new Run("a set has the elements that both y and z have and those that one of them has and x has not");
        String mark = "mark(" + f + ", " + e + ", ";
        run.ask(mark + inX + ")");
        twoWays(run, mark + inZ + ")", mark + inY + ")");
        run.rows("merge(1, 0) = 2", "conflicts() = 0");
        boolean due = inY && inZ || (inY || inZ) && !inX;
        run.due("value(" + run.ask("figure(0)") + ", " + f + ", 0)", "" + (due ? 1L << e : 0));
    }

    private static void conflictsToldOrNot() {
        String[] apart = {"put(0, 1) = 1", "turn(1) = 0", "put(0, 2) = 2"};
        new Run("conflicts(): 0 when .. there was no call").rows("conflicts() = 0").rows(apart)
                .rows("conflicts() = 0");
        new Run("conflicts(): 0 when it was none").rows(apart).rows("merge(0, 0) = " + ISE, "conflicts() = 1",
                "merge(1, 0) = 0", "conflicts() = 0", "merge(0, 1) = 2", "conflicts() = 1", "turn(2) = 0",
                "merge(0, 0) = 1", "conflicts() = 0", "go(0)", "mark(4, 1, true) = 4", "merge(0, 0) = 2",
                "conflicts() = 0");
        new Run("conflicts(): 0 when it .. threw an illegal argument").rows(apart).rows("merge(0, 0) = " + ISE,
                "conflicts() = 1", "merge(4, 0) = " + IAE, "conflicts() = 0", "merge(0, 2) = 2", "conflicts() = 1",
                "merge(0, 3) = " + IAE, "conflicts() = 0");
        for (int side = 0; side <= 2; side++) {
            new Run("conflicts(): .. settled or not").rows(apart).rows(
                    "merge(0, " + side + ") = " + (side == 0 ? ISE : "2"), "conflicts() = 1", "conflicts() = 1");
        }
        new Run("conflicts(): .. as the sum of 2^f, of all that can be conflicts").rows("put(0, 1) = 1", "put(1, 1) = 2",
                "insert(6, 0, 1) = 3", "insert(7, 0, 1) = 4", "add(2, 1) = 5", "mark(4, 1, true) = 6", "turn(1) = 0",
                "put(0, 2) = 7", "put(1, 2) = 8", "insert(6, 0, 2) = 9", "insert(7, 0, 2) = 10", "add(2, 2) = 11",
                "mark(4, 2, true) = 12", "merge(0, 0) = " + ISE, "conflicts() = 195");
        new Run("conflicts(): .. in the latest call of merge(), whatever was called since").rows(apart).rows(
                "merge(0, 0) = " + ISE, "put(0, 3) = 3", "undo() = 2", "redo() = 3", "undo() = 2", "go(2)", "point(2)",
                "turn(3) = 0", "base(0) = 0", "differ(1, 2) = 1", "parent(1, false) = 0", "figure(1) = 4",
                "value(1, 0, 0) = 1", "prune() = 1", "undo() = " + Run.NSEE, "redo() = " + Run.NSEE,
                "go(9) = " + IAE, "conflicts() = 1");
    }

    private static void conflictsWithSixty() {
        String[] apart = {"put(0, 1) = 1", "turn(1) = 0", "put(0, 2) = 2", "crowd"};
        for (int side = 0; side <= 2; side++) {
            new Run("The fields that were conflicts .., settled or not: with 60 revisions, too").rows(apart).rows(
                    "merge(0, " + side + ") = " + ISE, "conflicts() = 1", "figure(1) = 60", "figure(0) = 59");
            new Run("and none were where a revision alone is lacking").rows("put(0, 1) = 1", "turn(1) = 0",
                    "put(1, 2) = 2", "crowd", "merge(0, " + side + ") = " + ISE, "conflicts() = 0");
        }
    }

    private static void settled() {
        String[] apart = {"put(0, 1) = 1", "insert(6, 0, 1) = 2", "put(1, 1) = 3", "turn(1) = 0", "put(0, 2) = 4",
            "insert(6, 0, 2) = 5", "add(2, 7) = 6"};
        new Run("Where conflicts are settled for a .., the field is y .. there").rows(apart).rows("merge(0, 1) = 2",
                "value(7, 0, 0) = 2", "value(7, 6, 0) = 2", "value(7, 6, -1) = 1", "value(7, 1, 0) = 1",
                "value(7, 2, 0) = 7", "conflicts() = 65");
        new Run("Where conflicts are settled for .. b, the field is .. z, there").rows(apart).rows("merge(0, 2) = 2",
                "value(7, 0, 0) = 1", "value(7, 6, 0) = 1", "value(7, 6, -1) = 1", "value(7, 1, 0) = 1",
                "value(7, 2, 0) = 7", "conflicts() = 65");
        new Run("illegal state: a conflict is left").rows(apart).rows("merge(0, 0) = " + ISE, "figure(0) = 6",
                "figure(1) = 7", "conflicts() = 65");
    }

    private static void parentsAndComing() {
        new Run("a new revision is made .., with a as its first and b as its second parent, and one comes to it").rows(
                "put(0, 1) = 1", "turn(3) = 0", "put(1, 1) = 2", "put(1, 2) = 3", "undo() = 2", "merge(0, 0) = 2",
                "figure(0) = 4", "figure(7) = 4", "figure(4) = 1", "figure(3) = 0", "parent(4, false) = 2",
                "parent(4, true) = 1");
    }

    /** From where branch 0 is, branch 1 goes its way by the first call and branch 0 by the second one. */
    private static void twoWays(Run run, String theirs, String mine) {
        run.ask("point(1)");
        run.ask("turn(1)");
        run.ask(theirs);
        run.ask("insert(6, 0, 1)");
        run.ask("turn(0)");
        run.ask(mine);
        run.ask("insert(7, 0, 1)");
    }
}

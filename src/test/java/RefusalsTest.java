/**
 * The sentences of the document on refused calls: which arguments are refused
 * and which are just not, which exception comes first, and that a call that
 * throws changes nothing but conflicts().
 */
public final class RefusalsTest {
    private static final String IAE = Run.IAE;
    private static final String ISE = Run.ISE;
    private static final String IOOBE = Run.IOOBE;
    private static final String NSEE = Run.NSEE;
    private static final int MIN = Run.MIN;
    private static final int MAX = Run.MAX;

    /** Branches 0 to 2 have undone revisions, both lists have ints, and conflicts() is 1. */
    private static final String[] RICH = {
        "insert(6, 0, 1) = 1", "insert(7, 0, 2) = 2", "mark(4, 3, true) = 3", "point(1)", "put(0, 1) = 4",
        "turn(1) = 3", "put(0, 2) = 5", "add(2, 9) = 6", "undo() = 5", "turn(2) = 0", "put(1, 4) = 7",
        "put(1, 5) = 8", "undo() = 7", "undo() = 0", "turn(0) = 4", "put(1, 3) = 9", "undo() = 4",
        "merge(1, 0) = " + ISE, "conflicts() = 1"};

    /** The same with 60 revisions, and conflicts() is 1; branch 3 is where a merge would find none. */
    private static final String[] RICH_AND_FULL = {
        "insert(6, 0, 1) = 1", "insert(7, 0, 2) = 2", "mark(4, 3, true) = 3", "point(1)", "point(3)", "turn(3) = 3",
        "put(1, 6) = 4", "turn(0) = 3", "put(0, 1) = 5", "turn(1) = 3", "put(0, 2) = 6", "add(2, 9) = 7",
        "undo() = 6", "turn(0) = 5", "crowd", "undo() = 58", "merge(1, 0) = " + ISE, "conflicts() = 1"};

    private static final String[] EIGHT_INTS = {
        "insert(6, 0, 1) = 1", "insert(6, 1, 2) = 2", "insert(6, 2, 3) = 3", "insert(6, 3, 4) = 4",
        "insert(6, 4, 5) = 5", "insert(6, 5, 6) = 6", "insert(6, 6, 7) = 7", "insert(6, 7, 8) = 8",
        "put(0, 1) = 9", "undo() = 8"};

    public static void main(String[] args) {
        fieldsOfAKind();
        elements();
        branches();
        revisions();
        revisionsAfterPrune();
        sides();
        figures();
        places();
        firstNamed();
        refusedArgumentsChangeNothing();
        refusedStatesChangeNothing();
        refusedStepsChangeNothing();
        refusedMergesChangeConflictsAlone();
        Report.end();
    }

    private static void fieldsOfAKind() {
        String name = "Illegal argument is thrown, too, for what is .. no field of the kind that is asked for";
        for (int f : new int[] {MIN, -8, -2, -1, 0, 1, 2, 3, 4, 5, 6, 7, 8, 9, 64, MAX}) {
            refusedUnless(f == 0 || f == 1, name, "put(" + f + ", 5)");
            refusedUnless(f == 2 || f == 3, name, "add(" + f + ", 5)");
            refusedUnless(f == 2 || f == 3, name, "add(" + f + ", 0)");
            refusedUnless(f == 4 || f == 5, name, "mark(" + f + ", 5, true)");
            refusedUnless(f == 4 || f == 5, name, "mark(" + f + ", 5, false)");
            refusedUnless(f == 6 || f == 7, name, "insert(" + f + ", 0, 5)");
            refusedUnless(f == 6 || f == 7, name, "remove(" + f + ", 0)");
            refusedUnless(f >= 0 && f <= 7, "Illegal argument: .. f is not 0 .. 7", "value(0, " + f + ", -1)");
        }
    }

    private static void elements() {
        for (int e : new int[] {MIN, -32, -1, 0, 1, 15, 30, 31, 32, 33, 63, 64, MAX}) {
            for (int f = 4; f <= 5; f++) {
                String name = "Illegal argument: also if e is not 0 .. 31";
                refusedUnless(e >= 0 && e <= 31, name, "mark(" + f + ", " + e + ", true)");
                refusedUnless(e >= 0 && e <= 31, name, "mark(" + f + ", " + e + ", false)");
            }
        }
    }

    private static void branches() {
        String name = "Illegal argument is thrown, too, for what is no branch";
        for (int b : new int[] {MIN, -4, -1, 0, 1, 2, 3, 4, 5, 8, MAX}) {
            boolean isOne = b >= 0 && b <= 3;
            refusedUnless(isOne, name, "point(" + b + ")");
            refusedUnless(isOne, name, "turn(" + b + ")");
            refusedUnless(isOne, name, "base(" + b + ")");
            for (int side = 0; side <= 2; side++) {
                refusedUnless(isOne, name, "merge(" + b + ", " + side + ")");
            }
        }
    }

    private static void revisions() {
        for (int r : new int[] {MIN, -60, -1, 0, 1, 2, 59, 60, 61, 63, 64, MAX}) {
            revision(r, 1);
            revision(r, 2, "put(0, 5) = 1", "undo() = 0");
            revision(r, 59, "crowd but 1");
            revision(r, 60, "crowd");
        }
    }

    private static void revision(int r, int count, String... before) {
        String name = "Illegal argument is thrown, too, for what is .. no revision, of " + count;
        boolean isOne = r >= 0 && r < count;
        refusedUnless(isOne, name, "go(" + r + ")", before);
        refusedUnless(isOne, name, "value(" + r + ", 0, 0)", before);
        refusedUnless(isOne, name, "value(" + r + ", 7, -1)", before);
        refusedUnless(isOne, name, "differ(0, " + r + ")", before);
        refusedUnless(isOne, name, "differ(" + r + ", 0)", before);
        refusedUnless(isOne, name, "parent(" + r + ", false)", before);
        refusedUnless(isOne, name, "parent(" + r + ", true)", before);
    }

    private static void revisionsAfterPrune() {
        String[] before = {"put(0, 5) = 1", "put(0, 6) = 2", "put(0, 7) = 3", "go(1)", "prune() = 2"};
        revision(1, 2, before);
        revision(2, 2, before);
        revision(3, 2, before);
    }

    private static void sides() {
        String name = "Illegal argument: also if side is not 0 .. 2";
        for (int side : new int[] {MIN, -2, -1, 0, 1, 2, 3, 4, MAX}) {
            boolean isOne = side >= 0 && side <= 2;
            refusedUnless(isOne, name + " (way 0)", "merge(0, " + side + ")");
            refusedUnless(isOne, name + " (way 1)", "merge(0, " + side + ")", "put(0, 1) = 1", "turn(1) = 0");
            refusedUnless(isOne, name + " (way 2)", "merge(0, " + side + ")",
                    "put(0, 1) = 1", "turn(1) = 0", "put(1, 1) = 2");
        }
    }

    private static void figures() {
        for (int k : new int[] {MIN, -2, -1, 0, 1, 2, 3, 4, 5, 6, 7, 8, 9, MAX}) {
            refusedUnless(k >= 0 && k <= 7, "Illegal argument: k is none of these", "figure(" + k + ")");
        }
    }

    /** Of lists with 0 to 8 ints each place from two before the first to two behind the last. */
    private static void places() {
        for (int f = 6; f <= 7; f++) {
            for (int length = 0; length <= 8; length++) {
                for (int p = -2; p <= length + 2; p++) {
                    place(f, length, p);
                }
                place(f, length, MIN);
                place(f, length, MAX);
            }
        }
    }

    private static void place(int f, int length, int p) {
        String[] before = new String[length];
        for (int i = 0; i < length; i++) {
            before[i] = "insert(" + f + ", " + i + ", " + (10 + i) + ") = " + (i + 1);
        }
        boolean hasInt = p >= 0 && p < length;
        String inserted = p < 0 || p > length ? IOOBE : length == 8 ? ISE : "" + (length + 1);
        new Run("index out of bounds: p is not 0 .. its length").rows(before)
                .due("insert(" + f + ", " + p + ", 5)", inserted);
        new Run("index out of bounds: there is none").rows(before)
                .due("remove(" + f + ", " + p + ")", hasInt ? "" + (length + 1) : IOOBE);
        new Run("index out of bounds: a list has no place i, and i is not -1").rows(before)
                .due("value(" + length + ", " + f + ", " + p + ")",
                        hasInt ? "" + (10 + p) : p == -1 ? "" + length : IOOBE);
    }

    private static void firstNamed() {
        String name = "Of several exceptions that could be thrown the one named first is";
        new Run(name + ": with 60 revisions").rows("insert(6, 0, 1) = 1", "crowd").rows(
                "put(2, 9) = " + IAE, "put(0, 9) = " + ISE,
                "add(1, 9) = " + IAE, "add(2, 9) = " + ISE,
                "mark(6, 1, true) = " + IAE, "mark(4, 32, true) = " + IAE, "mark(4, 31, true) = " + ISE,
                "insert(5, 9, 1) = " + IAE, "insert(6, 2, 1) = " + IOOBE, "insert(6, -1, 1) = " + IOOBE,
                "insert(6, 1, 1) = " + ISE,
                "remove(5, 9) = " + IAE, "remove(6, 1) = " + IOOBE, "remove(6, -1) = " + IOOBE,
                "remove(6, 0) = " + ISE);
        new Run(name + ": with a list of 8 ints").rows(EIGHT_INTS).rows(
                "insert(5, 8, 1) = " + IAE, "insert(8, 9, 1) = " + IAE, "insert(6, 9, 1) = " + IOOBE,
                "insert(6, -1, 1) = " + IOOBE, "insert(6, 8, 1) = " + ISE, "insert(6, 0, 1) = " + ISE);
        new Run(name + ": with a list of 8 ints and 60 revisions").rows(EIGHT_INTS).rows("crowd").rows(
                "insert(5, 8, 1) = " + IAE, "insert(6, 9, 1) = " + IOOBE, "insert(6, 8, 1) = " + ISE,
                "insert(7, 1, 1) = " + IOOBE, "insert(7, 0, 1) = " + ISE);
        new Run(name + ": value").rows("insert(6, 0, 1) = 1", "value(2, 6, 1) = " + IAE, "value(1, 8, 1) = " + IAE,
                "value(2, 8, 1) = " + IAE, "value(1, 6, 1) = " + IOOBE, "value(0, 6, 0) = " + IOOBE);
        new Run(name + ": merge").rows(RICH_AND_FULL).rows("merge(4, 0) = " + IAE, "merge(1, 3) = " + IAE,
                "merge(1, -1) = " + IAE, "merge(1, 0) = " + ISE, "merge(1, 1) = " + ISE, "merge(3, 0) = " + ISE);
    }

    private static void refusedArgumentsChangeNothing() {
        for (String[] before : new String[][] {RICH, RICH_AND_FULL}) {
            for (String call : new String[] {"put(2, 5)", "put(-1, 5)", "add(4, 5)", "add(1, 5)", "mark(6, 1, true)",
                "mark(4, 32, true)", "mark(4, -1, false)", "insert(5, 0, 1)", "remove(8, 0)", "point(4)", "point(-1)",
                "turn(4)", "turn(-1)", "go(60)", "go(-1)", "base(4)", "value(60, 0, 0)", "value(0, 8, 0)",
                "differ(0, 60)", "differ(-1, 0)", "parent(60, false)", "parent(-1, true)", "figure(8)",
                "figure(-1)"}) {
                changesNothing(before, call, IAE, "1");
            }
            for (String call : new String[] {"insert(6, 2, 5)", "insert(6, -1, 5)", "insert(7, 3, 5)", "remove(6, 1)",
                "remove(7, -1)", "value(4, 6, 1)", "value(4, 7, -2)"}) {
                changesNothing(before, call, IOOBE, "1");
            }
        }
    }

    private static void refusedStatesChangeNothing() {
        for (String call : new String[] {"put(0, 7)", "put(1, 7)", "add(2, 1)", "add(3, -1)", "mark(4, 3, false)",
            "mark(5, 31, true)", "insert(6, 0, 5)", "insert(7, 1, 5)", "remove(6, 0)", "remove(7, 0)"}) {
            changesNothing(RICH_AND_FULL, call, ISE, "1");
        }
        changesNothing(EIGHT_INTS, "insert(6, 0, 9)", ISE, "0");
        changesNothing(EIGHT_INTS, "insert(6, 8, 9)", ISE, "0");
    }

    private static void refusedStepsChangeNothing() {
        String[] allUndone = {"put(0, 1) = 1", "put(0, 2) = 2", "turn(1) = 0", "put(0, 3) = 3", "turn(0) = 2",
            "merge(1, 0) = " + ISE, "undo() = 1", "undo() = 0"};
        changesNothing(allUndone, "undo()", NSEE, "1");
        String[] noneUndone = {"put(0, 1) = 1", "put(0, 2) = 2", "turn(1) = 0", "put(0, 3) = 3", "undo() = 0",
            "turn(0) = 2"};
        changesNothing(noneUndone, "redo()", NSEE, "0");
        changesNothing(new String[0], "undo()", NSEE, "0");
        changesNothing(new String[0], "redo()", NSEE, "0");
    }

    private static void refusedMergesChangeConflictsAlone() {
        for (String[] before : new String[][] {RICH, RICH_AND_FULL}) {
            for (String call : new String[] {"merge(4, 0)", "merge(-1, 1)", "merge(1, 3)", "merge(1, -1)",
                "merge(0, 3)", "merge(9, 9)"}) {
                changesNothing(before, call, IAE, "0");
            }
            changesNothing(before, "merge(1, 0)", ISE, "1");
        }
        changesNothing(RICH_AND_FULL, "merge(1, 1)", ISE, "1");
        changesNothing(RICH_AND_FULL, "merge(1, 2)", ISE, "1");
        changesNothing(RICH_AND_FULL, "merge(3, 0)", ISE, "0");
        changesNothing(RICH_AND_FULL, "merge(3, 2)", ISE, "0");
    }

    /** A call that is refused, or not, on a new object; a place that is not there is no matter here. */
    private static void refusedUnless(boolean accepted, String name, String call, String... before) {
        String answer = new Run(name).rows(before).ask(call);
        Report.due(name, call + " refused", "" + answer.equals(IAE), "" + !accepted);
    }

    /** Of two objects with the same calls before, one makes the call that throws: both look the same then. */
    private static void changesNothing(String[] before, String call, String exception, String conflicts) {
        String name = "a call that throws changes nothing but conflicts(): " + call;
        Run one = new Run(name).rows(before);
        one.due(call, exception);
        one.due("conflicts()", conflicts);
        Run other = new Run(name).rows(before);
        Report.due(name, "all that can be seen", View.of(one), View.of(other));
    }
}

/** The sentences of the document's "What it is" and "Terms" that name a boundary, but for refusals and merging. */
public final class TermsTest {
    private static final String ISE = Run.ISE;
    private static final String IOOBE = Run.IOOBE;
    private static final String NSEE = Run.NSEE;
    private static final int MIN = Run.MIN;
    private static final int MAX = Run.MAX;

    /** Revision 59 is the present one; number 0 is 5, set 4 has 3, list 6 has a 7. */
    private static final String[] FULL = {
        "put(0, 5) = 1", "mark(4, 3, true) = 2", "insert(6, 0, 7) = 3", "crowd", "figure(0) = 59"};

    public static void main(String[] args) {
        mostCalls();
        numbers();
        sets();
        lists();
        firstRecord();
        sameSets();
        sameLists();
        mostRevisions();
        recordsNeverChange();
        parents();
        ancestors();
        branches();
        comingEmptiesTheList();
        stayingLeavesTheList();
        sameWithSixty();
        Report.end();
    }

    private static void mostCalls() {
        Run run = new Run("An object is used for at most 512 calls after it has been made");
        for (int round = 0; round < 8; round++) {
            run.rows("crowd", "value(59, 3, 0) = 59", "go(0)", "prune() = 59");
        }
        while (run.calls() < 508) {
            run.rows("figure(1) = 1");
        }
        run.rows("put(0, 5) = 1", "insert(6, 0, 9) = 2", "value(2, 6, 0) = 9", "figure(1) = 3");
        Report.due("the 512th call is answered", "how many calls", run.calls(), 512);
    }

    private static void numbers() {
        for (int f = 0; f <= 1; f++) {
            new Run("0 and 1 are NUMBERS (ints)").rows(
                    "put(" + f + ", " + MAX + ") = 1", "put(" + f + ", " + MIN + ") = 2", "put(" + f + ", -1) = 3",
                    "put(" + f + ", 0) = 4", "value(1, " + f + ", 0) = 2147483647",
                    "value(2, " + f + ", 0) = -2147483648", "value(3, " + f + ", 0) = -1",
                    "value(4, " + f + ", 0) = 0", "differ(0, 4) = 0", "differ(1, 2) = " + (1 << f));
        }
    }

    private static void sets() {
        for (int f = 4; f <= 5; f++) {
            Run run = new Run("4 and 5 SETS of the elements 0 .. 31");
            long sum = 0;
            for (int e = 0; e <= 31; e++) {
                sum += Math.round(Math.pow(2, e));
                run.rows("mark(" + f + ", " + e + ", true) = " + (e + 1),
                        "value(" + (e + 1) + ", " + f + ", 0) = " + sum);
            }
            run.rows("value(32, " + f + ", 0) = 4294967295", "value(32, " + (9 - f) + ", 0) = 0");
            new Run("the first and the last element alone, in and out again").rows(
                    "mark(" + f + ", 31, true) = 1", "value(1, " + f + ", 0) = 2147483648",
                    "mark(" + f + ", 31, false) = 2", "value(2, " + f + ", 0) = 0",
                    "mark(" + f + ", 0, true) = 3", "value(3, " + f + ", 0) = 1",
                    "mark(" + f + ", 0, false) = 4", "value(4, " + f + ", 0) = 0", "differ(0, 4) = 0");
        }
    }

    private static void lists() {
        for (int f = 6; f <= 7; f++) {
            Run run = new Run("6 and 7 LISTS of at most 8 ints");
            for (int i = 0; i < 8; i++) {
                run.rows("insert(" + f + ", " + i + ", " + (i - 4) + ") = " + (i + 1));
            }
            for (int p = 0; p <= 8; p++) {
                run.rows("insert(" + f + ", " + p + ", 9) = " + ISE);
            }
            run.rows("figure(1) = 9", "value(8, " + f + ", -1) = 8", "value(8, " + f + ", 0) = -4",
                    "value(8, " + f + ", 7) = 3", "value(8, " + f + ", 8) = " + IOOBE,
                    "insert(" + (13 - f) + ", 0, 9) = 9", "remove(" + f + ", 7) = 10",
                    "insert(" + f + ", 7, 9) = 11", "insert(" + f + ", 7, 9) = " + ISE,
                    "value(11, " + f + ", 7) = 9", "value(11, " + (13 - f) + ", -1) = 1");
            new Run("6 and 7 LISTS of .. ints").rows(
                    "insert(" + f + ", 0, " + MAX + ") = 1", "insert(" + f + ", 0, " + MIN + ") = 2",
                    "value(2, " + f + ", 0) = -2147483648", "value(2, " + f + ", 1) = 2147483647");
        }
    }

    private static void firstRecord() {
        Run run = new Run("At first numbers and counters are 0, sets and lists empty");
        for (int f = 0; f <= 7; f++) {
            run.rows("value(0, " + f + ", -1) = 0");
        }
        run.rows("value(0, 6, 0) = " + IOOBE, "value(0, 7, 0) = " + IOOBE, "remove(6, 0) = " + IOOBE,
                "mark(4, 0, false) = 0", "put(0, 0) = 0", "figure(1) = 1");
    }

    private static void sameSets() {
        new Run("Two fields are the same if they are equal, sets with the same elements").rows(
                "mark(4, 0, true) = 1", "mark(4, 31, true) = 2", "go(0)", "mark(4, 31, true) = 3",
                "mark(4, 0, true) = 4", "differ(2, 4) = 0", "differ(1, 3) = 16", "differ(1, 4) = 16",
                "mark(4, 0, false) = 5", "differ(3, 5) = 0", "mark(4, 31, false) = 6", "differ(0, 6) = 0",
                "mark(5, 31, true) = 7", "differ(3, 7) = 48");
    }

    private static void sameLists() {
        new Run("lists with the same ints in the same order").rows(
                "insert(6, 0, 1) = 1", "insert(6, 1, 2) = 2", "go(0)", "insert(6, 0, 2) = 3", "insert(6, 0, 1) = 4",
                "differ(2, 4) = 0", "go(3)", "insert(6, 1, 1) = 5", "differ(2, 5) = 64");
        new Run("lists with the same ints: one more is another list").rows(
                "insert(7, 0, 0) = 1", "insert(7, 0, 0) = 2", "differ(0, 1) = 128", "differ(1, 2) = 128",
                "remove(7, 0) = 3", "differ(1, 3) = 0", "remove(7, 0) = 4", "differ(0, 4) = 0");
        Run run = new Run("lists with the same ints: the last of eight tells");
        for (int i = 0; i < 8; i++) {
            run.rows("insert(6, " + i + ", 5) = " + (i + 1));
        }
        run.rows("remove(6, 7) = 9", "insert(6, 7, 6) = 10", "differ(8, 10) = 64", "differ(7, 9) = 0",
                "remove(6, 7) = 11", "insert(6, 7, 5) = 12", "differ(8, 12) = 0",
                "remove(6, 0) = 13", "insert(6, 0, 6) = 14", "differ(8, 14) = 64");
    }

    private static void mostRevisions() {
        for (String call : new String[] {"put(0, 6)", "put(1, 6)", "add(2, 1)", "add(3, -1)", "mark(4, 3, false)",
            "mark(5, 31, true)", "insert(6, 0, 8)", "insert(7, 0, 8)", "remove(6, 0)"}) {
            String[] before = {"put(0, 5) = 1", "mark(4, 3, true) = 2", "insert(6, 0, 7) = 3"};
            new Run("REVISIONS are .. at most 60: the last one can be made").rows(before).rows("crowd but 1",
                    "figure(1) = 59", call + " = 59", "figure(1) = 60", "figure(0) = 59", "parent(59, false) = 58",
                    "put(1, 77) = " + ISE);
            new Run("illegal state where a revision would have to be made and there are 60").rows(before)
                    .rows("crowd", call + " = " + ISE, "figure(1) = 60", "figure(0) = 59");
        }
        String[] twoWays = {"put(0, 5) = 1", "turn(1) = 0", "put(1, 6) = 2"};
        new Run("REVISIONS are .. at most 60: the last one can be a merged one").rows(twoWays).rows("crowd but 1",
                "merge(0, 0) = 2", "figure(0) = 59", "figure(1) = 60", "parent(59, true) = 1", "put(0, 7) = " + ISE);
        new Run("illegal state: .. a revision would have to be made and there are 60").rows(twoWays).rows("crowd",
                "merge(0, 0) = " + ISE, "merge(0, 1) = " + ISE, "merge(0, 2) = " + ISE, "figure(1) = 60");
        new Run("REVISIONS are .. at most 60: there is room for as many as were pruned").rows("crowd", "go(58)",
                "put(0, 1) = " + ISE, "prune() = 1", "put(0, 1) = 59", "put(0, 2) = " + ISE, "figure(1) = 60");
    }

    private static void recordsNeverChange() {
        new Run("each has a record that never changes").rows(
                "put(0, 1) = 1", "add(2, 2) = 2", "mark(4, 3, true) = 3", "insert(6, 0, 4) = 4", "insert(6, 1, 5) = 5",
                "point(1)", "put(0, 9) = 6", "add(2, 9) = 7", "mark(4, 3, false) = 8", "remove(6, 0) = 9",
                "insert(6, 0, 9) = 10", "turn(1) = 5", "insert(6, 2, 8) = 11", "merge(0, 0) = 2", "undo() = 11",
                "value(5, 0, 0) = 1", "value(5, 2, 0) = 2", "value(5, 4, 0) = 8", "value(5, 6, -1) = 2",
                "value(5, 6, 0) = 4", "value(5, 6, 1) = 5", "value(11, 6, 2) = 8", "value(11, 0, 0) = 1",
                "value(10, 6, -1) = 2", "value(10, 6, 0) = 9", "value(10, 6, 1) = 5", "value(12, 6, -1) = 3",
                "value(12, 6, 0) = 9", "value(12, 6, 2) = 8", "value(0, 6, -1) = 0", "value(0, 0, 0) = 0");
    }

    private static void parents() {
        new Run("Revision 0 has the first record and no parent").rows("parent(0, false) = -1",
                "parent(0, true) = -1", "put(0, 1) = 1", "parent(0, false) = -1", "parent(0, true) = -1");
        new Run("every other one has a FIRST PARENT, and one that was made by merging has a SECOND PARENT, too").rows(
                "put(0, 1) = 1", "turn(1) = 0", "put(1, 1) = 2", "parent(1, false) = 0", "parent(1, true) = -1",
                "parent(2, false) = 0", "parent(2, true) = -1", "merge(0, 0) = 2", "parent(3, false) = 2",
                "parent(3, true) = 1", "put(1, 2) = 4", "parent(4, false) = 3", "parent(4, true) = -1");
    }

    private static void ancestors() {
        new Run("r is an ANCESTOR of q if r is q").rows("put(0, 1) = 1", "base(0) = 1", "merge(0, 0) = 0", "point(1)",
                "base(1) = 1", "merge(1, 0) = 0", "figure(1) = 2");
        new Run("or an ancestor of a parent of q: by many first parents").rows("crowd", "base(1) = 0",
                "merge(1, 0) = 0", "turn(1) = 0", "go(1)", "base(0) = 1", "merge(0, 0) = 1", "figure(0) = 59");
        new Run("or an ancestor of a parent of q: by a second parent's first parent").rows("put(0, 1) = 1", "point(2)",
                "put(0, 2) = 2", "turn(1) = 0", "put(1, 1) = 3", "merge(0, 0) = 2", "base(2) = 1", "merge(2, 0) = 0",
                "turn(2) = 1", "merge(1, 0) = 1", "figure(0) = 4");
        new Run("one beside it is no ancestor, nor is one that comes after it").rows("put(0, 1) = 1", "turn(1) = 0",
                "put(0, 1) = 2", "base(0) = 0", "merge(0, 0) = 2", "turn(0) = 1", "base(1) = 1", "merge(1, 0) = 1");
    }

    private static void branches() {
        Run run = new Run("BRANCHES are 0 .. 3; each points to a revision, at first to 0, .. UNDONE .. at first empty");
        run.rows("figure(2) = 0");
        for (int b = 0; b <= 3; b++) {
            run.rows("figure(" + (4 + b) + ") = 0", "turn(" + b + ") = 0", "figure(2) = " + b, "figure(3) = 0",
                    "redo() = " + NSEE);
        }
        for (int b = 3; b >= 0; b--) {
            run.rows("turn(" + b + ") = 0", "put(0, " + (b + 1) + ") = " + (4 - b));
        }
        run.rows("figure(4) = 4", "figure(5) = 3", "figure(6) = 2", "figure(7) = 1");
    }

    /** Branches 0 and 1 both have one undone revision; branch 2 points to another way, branch 3 behind branch 0. */
    private static Run undoneOnTwo(String name) {
        return new Run(name).rows("mark(4, 1, true) = 1", "insert(6, 0, 1) = 2", "turn(2) = 0", "put(1, 1) = 3",
                "turn(1) = 0", "put(0, 8) = 4", "undo() = 0", "turn(0) = 2", "point(3)", "put(0, 9) = 5", "undo() = 2",
                "turn(3) = 2", "add(2, 4) = 6", "turn(0) = 2", "figure(3) = 1");
    }

    private static void comingEmptiesTheList() {
        String name = "To COME to a revision means: the present branch points to it, its list .. becomes empty";
        for (String row : new String[] {"put(0, 9) = 7", "add(2, 1) = 7", "mark(5, 1, true) = 7",
            "mark(4, 1, false) = 7", "insert(6, 1, 1) = 7", "remove(6, 0) = 7", "merge(2, 0) = 2"}) {
            undoneOnTwo(name).rows(row, "figure(0) = 7", "figure(3) = 0", "redo() = " + NSEE, "turn(1) = 0",
                    "figure(3) = 1", "redo() = 4");
        }
        undoneOnTwo(name).rows("merge(3, 0) = 1", "figure(0) = 6", "figure(4) = 6", "figure(3) = 0",
                "redo() = " + NSEE, "turn(1) = 0", "figure(3) = 1", "redo() = 4");
        undoneOnTwo(name).rows("go(5)", "figure(0) = 5", "figure(4) = 5", "figure(3) = 0", "turn(1) = 0",
                "figure(3) = 1");
        undoneOnTwo(name).rows("go(2)", "figure(0) = 2", "figure(3) = 0", "redo() = " + NSEE);
    }

    private static void stayingLeavesTheList() {
        for (String row : new String[] {"put(0, 0) = 2", "add(2, 0) = 2", "mark(4, 1, true) = 2",
            "mark(5, 1, false) = 2", "merge(0, 0) = 0", "merge(1, 0) = 0", "turn(0) = 2", "point(0)"}) {
            undoneOnTwo("if it stays the same, nothing happens").rows(row, "figure(0) = 2", "figure(1) = 7",
                    "figure(3) = 1", "redo() = 5");
        }
    }

    private static void sameWithSixty() {
        String name = "if it stays the same, nothing happens (also with 60 revisions)";
        for (String same : new String[] {"put(0, 5)", "put(1, 0)", "add(2, 0)", "add(3, 0)", "mark(4, 3, true)",
            "mark(4, 4, false)", "mark(5, 0, false)"}) {
            new Run(name).rows(FULL).rows(same + " = 59", "figure(0) = 59", "figure(1) = 60");
            new Run(name + ": the undone ones stay").rows(FULL).rows("undo() = 58", same + " = 58", "figure(3) = 1",
                    "figure(1) = 60", "redo() = 59");
        }
        for (String other : new String[] {"put(0, 6)", "put(1, 1)", "add(2, 1)", "add(3, -1)", "mark(4, 3, false)",
            "mark(4, 4, true)", "mark(5, 0, true)"}) {
            new Run("but another field can't be made with 60").rows(FULL).rows(other + " = " + ISE, "figure(1) = 60");
        }
    }
}

/** Written runs of calls on new objects for each promise of the document. */
public final class PromisesTest {
    private static final String IAE = Run.IAE;
    private static final String ISE = Run.ISE;
    private static final String IOOBE = Run.IOOBE;
    private static final String NSEE = Run.NSEE;
    private static final int MIN = Run.MIN;
    private static final int MAX = Run.MAX;

    public static void main(String[] args) {
        newObject();
        put();
        add();
        mark();
        insert();
        remove();
        point();
        turn();
        go();
        undo();
        redo();
        merge();
        mergeFields();
        mergeLists();
        mergeListEdges();
        mergeWithoutRoom();
        conflicts();
        base();
        value();
        differ();
        parent();
        prune();
        figure();
        Report.end();
    }

    private static void newObject() {
        run("1 a new object has revision 0 alone, and all branches point to it",
                "figure(0) = 0", "figure(1) = 1", "figure(2) = 0", "figure(3) = 0",
                "figure(4) = 0", "figure(5) = 0", "figure(6) = 0", "figure(7) = 0",
                "parent(0, false) = -1", "parent(0, true) = -1", "conflicts() = 0",
                "undo() = " + NSEE, "redo() = " + NSEE, "prune() = 0", "figure(1) = 1");
        run("1 the first record is 0, 0, empty and empty",
                "value(0, 0, 0) = 0", "value(0, 1, 0) = 0", "value(0, 2, 0) = 0", "value(0, 3, 0) = 0",
                "value(0, 4, 0) = 0", "value(0, 5, 0) = 0", "value(0, 6, -1) = 0", "value(0, 7, -1) = 0",
                "value(0, 6, 0) = " + IOOBE, "value(1, 0, 0) = " + IAE);
        run("1 the lists of undone ones are empty on all branches",
                "turn(1) = 0", "figure(3) = 0", "turn(2) = 0", "figure(3) = 0", "turn(3) = 0", "figure(3) = 0");
        twoObjects();
    }

    /** A second object knows nothing of the first one. */
    private static void twoObjects() {
        Run one = new Run("promise 1 the first of two objects").rows("put(0, 5) = 1");
        Run other = new Run("promise 1 the second of two objects");
        other.rows("figure(1) = 1", "put(1, 6) = 1", "value(1, 0, 0) = 0");
        one.rows("value(1, 1, 0) = 0");
    }

    private static void put() {
        run("2 put makes a revision with the present one's record but for the number",
                "put(0, 5) = 1", "put(1, -7) = 2", "put(0, 6) = 3",
                "value(1, 0, 0) = 5", "value(1, 1, 0) = 0", "value(2, 0, 0) = 5", "value(2, 1, 0) = -7",
                "value(3, 0, 0) = 6", "value(3, 1, 0) = -7", "value(0, 0, 0) = 0",
                "parent(3, false) = 2", "parent(3, true) = -1", "figure(4) = 3", "figure(5) = 0");
        run("2 put of the same number does nothing, not even to the undone ones",
                "put(0, 0) = 0", "figure(1) = 1", "put(0, 5) = 1", "put(0, 5) = 1", "figure(1) = 2",
                "put(0, 6) = 2", "undo() = 1", "put(0, 5) = 1", "figure(3) = 1", "redo() = 2");
        run("2 put empties the list of undone ones",
                "put(0, 5) = 1", "undo() = 0", "put(0, 5) = 2", "figure(3) = 0", "redo() = " + NSEE,
                "parent(2, false) = 0", "figure(1) = 3");
        run("2 put takes every int", "put(0, " + MIN + ") = 1", "value(1, 0, 0) = " + MIN,
                "put(1, " + MAX + ") = 2", "value(2, 1, 0) = " + MAX);
        run("2 put takes numbers alone", "put(-1, 5) = " + IAE, "put(2, 5) = " + IAE, "put(4, 5) = " + IAE,
                "put(6, 5) = " + IAE, "put(8, 5) = " + IAE, "put(" + MIN + ", 5) = " + IAE, "figure(1) = 1");
        run("2 put with 60 revisions",
                "put(0, 5) = 1", "crowd", "put(0, 6) = " + ISE, "put(0, 5) = 59", "put(2, 5) = " + IAE,
                "figure(0) = 59", "figure(1) = 60", "value(59, 0, 0) = 5");
    }

    private static void add() {
        run("3 add lets a counter grow or shrink",
                "add(2, 7) = 1", "add(2, -10) = 2", "add(3, 4) = 3",
                "value(1, 2, 0) = 7", "value(2, 2, 0) = -3", "value(3, 2, 0) = -3", "value(3, 3, 0) = 4",
                "parent(3, false) = 2");
        run("3 add of 0 does nothing", "add(2, 0) = 0", "add(2, 7) = 1", "add(2, 1) = 2", "undo() = 1",
                "add(2, 0) = 1", "figure(3) = 1", "figure(1) = 3");
        run("3 counters are longs",
                "add(2, " + MAX + ") = 1", "add(2, " + MAX + ") = 2", "value(2, 2, 0) = 4294967294",
                "add(3, " + MIN + ") = 3", "add(3, " + MIN + ") = 4", "value(4, 3, 0) = -4294967296");
        run("3 add empties the list of undone ones", "add(2, 1) = 1", "undo() = 0", "add(2, 1) = 2",
                "figure(3) = 0");
        run("3 add takes counters alone", "add(-1, 5) = " + IAE, "add(1, 5) = " + IAE, "add(4, 5) = " + IAE,
                "add(6, 0) = " + IAE, "add(" + MAX + ", 0) = " + IAE, "figure(1) = 1");
        run("3 add with 60 revisions", "crowd", "add(2, 1) = " + ISE, "add(3, 0) = 59", "add(0, 1) = " + IAE,
                "value(59, 3, 0) = 59", "figure(1) = 60");
    }

    private static void mark() {
        run("4 mark takes elements in and out",
                "mark(4, 0, true) = 1", "mark(4, 31, true) = 2", "mark(5, 3, true) = 3", "mark(4, 0, false) = 4",
                "value(1, 4, 0) = 1", "value(2, 4, 0) = 2147483649", "value(3, 4, 0) = 2147483649",
                "value(3, 5, 0) = 8", "value(4, 4, 0) = 2147483648", "value(4, 5, 0) = 8", "parent(4, false) = 3");
        run("4 mark of what is so already does nothing",
                "mark(4, 5, false) = 0", "mark(4, 5, true) = 1", "mark(4, 5, true) = 1", "mark(4, 6, true) = 2",
                "undo() = 1", "mark(4, 6, false) = 1", "mark(5, 5, false) = 1", "figure(3) = 1", "figure(1) = 3");
        run("4 mark empties the list of undone ones", "mark(4, 1, true) = 1", "undo() = 0",
                "mark(4, 1, true) = 2", "figure(3) = 0");
        run("4 mark takes sets and elements 0 .. 31 alone",
                "mark(3, 0, true) = " + IAE, "mark(6, 0, true) = " + IAE, "mark(-4, 0, true) = " + IAE,
                "mark(4, 32, true) = " + IAE, "mark(4, -1, true) = " + IAE, "mark(5, 32, false) = " + IAE,
                "mark(5, " + MIN + ", false) = " + IAE, "mark(0, 40, true) = " + IAE, "figure(1) = 1");
        run("4 mark with 60 revisions", "mark(4, 7, true) = 1", "crowd", "mark(4, 8, true) = " + ISE,
                "mark(4, 7, false) = " + ISE, "mark(4, 7, true) = 59", "mark(4, 8, false) = 59",
                "mark(4, 32, true) = " + IAE, "value(59, 4, 0) = 128");
    }

    private static void insert() {
        run("5 insert puts an int before a place, or behind all",
                "insert(6, 0, 10) = 1", "insert(6, 1, 30) = 2", "insert(6, 1, 20) = 3", "insert(6, 0, 0) = 4",
                "value(4, 6, -1) = 4", "value(4, 6, 0) = 0", "value(4, 6, 1) = 10", "value(4, 6, 2) = 20",
                "value(4, 6, 3) = 30", "value(4, 7, -1) = 0", "value(2, 6, 1) = 30", "value(2, 6, -1) = 2",
                "parent(4, false) = 3");
        run("5 insert always changes the list, and empties the list of undone ones",
                "insert(7, 0, 0) = 1", "insert(7, 0, 0) = 2", "undo() = 1", "insert(7, 1, 0) = 3", "figure(3) = 0",
                "differ(2, 3) = 0", "value(3, 7, -1) = 2");
        run("5 insert keeps every int", "insert(6, 0, " + MIN + ") = 1", "insert(6, 1, " + MAX + ") = 2",
                "value(2, 6, 0) = " + MIN, "value(2, 6, 1) = " + MAX);
        run("5 insert takes lists alone, and places up to the length",
                "insert(5, 0, 1) = " + IAE, "insert(8, 0, 1) = " + IAE, "insert(5, 9, 1) = " + IAE,
                "insert(-1, -1, 1) = " + IAE, "insert(6, 1, 1) = " + IOOBE, "insert(6, -1, 1) = " + IOOBE,
                "insert(7, " + MIN + ", 1) = " + IOOBE, "insert(7, " + MAX + ", 1) = " + IOOBE,
                "insert(6, 0, 1) = 1", "insert(6, 2, 1) = " + IOOBE, "insert(7, 1, 1) = " + IOOBE, "figure(1) = 2");
        run("5 insert into a list of 8 ints",
                "insert(7, 0, 1) = 1", "insert(7, 1, 2) = 2", "insert(7, 2, 3) = 3", "insert(7, 3, 4) = 4",
                "insert(7, 4, 5) = 5", "insert(7, 5, 6) = 6", "insert(7, 6, 7) = 7", "insert(7, 0, 8) = 8",
                "insert(7, 8, 9) = " + ISE, "insert(7, 0, 9) = " + ISE, "insert(7, 9, 9) = " + IOOBE,
                "insert(7, -1, 9) = " + IOOBE, "insert(3, 0, 9) = " + IAE, "figure(1) = 9",
                "value(8, 7, 0) = 8", "value(8, 7, 7) = 7", "value(8, 6, -1) = 0", "insert(6, 0, 9) = 9");
        run("5 insert with 60 revisions", "crowd", "insert(6, 0, 1) = " + ISE, "insert(6, 1, 1) = " + IOOBE,
                "insert(5, 0, 1) = " + IAE, "figure(0) = 59", "value(59, 6, -1) = 0");
        for (int length = 0; length <= 7; length++) {
            for (int p = 0; p <= length; p++) {
                insertAt(length, p);
            }
        }
    }

    private static void insertAt(int length, int p) {
        Run run = tens("promise 5 insert before place " + p + " of " + length, length);
        run.rows("insert(6, " + p + ", -1) = " + (length + 1), "value(" + (length + 1) + ", 6, -1) = " + (length + 1));
        for (int i = 0; i <= length; i++) {
            int due = i < p ? 10 * i : i == p ? -1 : 10 * (i - 1);
            run.due("value(" + (length + 1) + ", 6, " + i + ")", "" + due);
        }
    }

    /** List 6 has 0, 10, 20 and so on, and revision length is the present one. */
    private static Run tens(String name, int length) {
        Run run = new Run(name);
        for (int i = 0; i < length; i++) {
            run.rows("insert(6, " + i + ", " + 10 * i + ") = " + (i + 1));
        }
        return run;
    }

    private static void remove() {
        run("6 remove takes the int at a place out",
                "insert(6, 0, 10) = 1", "insert(6, 1, 20) = 2", "insert(6, 2, 30) = 3", "insert(7, 0, 7) = 4",
                "remove(6, 1) = 5", "value(5, 6, -1) = 2", "value(5, 6, 0) = 10", "value(5, 6, 1) = 30",
                "value(5, 6, 2) = " + IOOBE, "value(5, 7, 0) = 7", "remove(6, 0) = 6", "value(6, 6, 0) = 30",
                "remove(6, 0) = 7", "value(7, 6, -1) = 0", "value(4, 6, 1) = 20", "differ(0, 7) = 128",
                "parent(7, false) = 6");
        run("6 remove empties the list of undone ones", "insert(6, 0, 1) = 1", "insert(6, 0, 1) = 2", "undo() = 1",
                "remove(6, 0) = 3", "figure(3) = 0");
        run("6 a list that was longer once is the same as one that was not",
                "insert(6, 0, 1) = 1", "insert(6, 1, 2) = 2", "remove(6, 1) = 3", "differ(1, 3) = 0");
        run("6 remove takes lists alone, and places that have an int",
                "remove(5, 0) = " + IAE, "remove(8, 0) = " + IAE, "remove(-6, 3) = " + IAE,
                "remove(6, 0) = " + IOOBE, "remove(7, -1) = " + IOOBE, "insert(6, 0, 1) = 1",
                "remove(6, 1) = " + IOOBE, "remove(6, -1) = " + IOOBE, "remove(7, 0) = " + IOOBE,
                "remove(6, " + MAX + ") = " + IOOBE, "remove(6, " + MIN + ") = " + IOOBE, "figure(1) = 2");
        run("6 remove from a list of 8 ints",
                "insert(6, 0, 8) = 1", "insert(6, 0, 7) = 2", "insert(6, 0, 6) = 3", "insert(6, 0, 5) = 4",
                "insert(6, 0, 4) = 5", "insert(6, 0, 3) = 6", "insert(6, 0, 2) = 7", "insert(6, 0, 1) = 8",
                "insert(7, 0, 9) = 9", "remove(6, 8) = " + IOOBE, "remove(6, 7) = 10", "remove(6, 0) = 11",
                "value(11, 6, -1) = 6", "value(11, 6, 0) = 2", "value(11, 6, 5) = 7", "value(11, 7, 0) = 9");
        run("6 remove with 60 revisions", "insert(6, 0, 1) = 1", "crowd", "remove(6, 0) = " + ISE,
                "remove(6, 1) = " + IOOBE, "remove(0, 1) = " + IAE, "value(59, 6, -1) = 1");
        for (int length = 1; length <= 8; length++) {
            for (int p = 0; p < length; p++) {
                removeAt(length, p);
            }
        }
    }

    private static void removeAt(int length, int p) {
        Run run = tens("promise 6 remove at place " + p + " of " + length, length);
        run.rows("remove(6, " + p + ") = " + (length + 1), "value(" + (length + 1) + ", 6, -1) = " + (length - 1));
        for (int i = 0; i < length - 1; i++) {
            run.due("value(" + (length + 1) + ", 6, " + i + ")", "" + 10 * (i < p ? i : i + 1));
        }
        run.rows("value(" + (length + 1) + ", 6, " + (length - 1) + ") = " + IOOBE);
    }

    private static void point() {
        run("7 point lets a branch point to the present revision",
                "put(0, 1) = 1", "point(2)", "figure(6) = 1", "figure(4) = 1", "figure(5) = 0", "figure(7) = 0",
                "figure(2) = 0", "put(0, 2) = 2", "figure(6) = 1", "figure(1) = 3", "turn(2) = 1");
        run("7 point empties the other branch's list of undone ones",
                "turn(1) = 0", "put(0, 1) = 1", "undo() = 0", "turn(0) = 0", "point(1)", "turn(1) = 0",
                "figure(3) = 0", "redo() = " + NSEE);
        run("7 point keeps the present branch's list, also when it points at another branch",
                "put(0, 1) = 1", "undo() = 0", "point(0)", "figure(3) = 1", "point(1)", "figure(3) = 1", "redo() = 1",
                "figure(5) = 0");
        run("7 point takes branches alone", "point(4) = " + IAE, "point(-1) = " + IAE, "point(" + MIN + ") = " + IAE,
                "point(3)", "figure(7) = 0");
    }

    private static void turn() {
        run("8 turn makes a branch the present one",
                "put(0, 1) = 1", "turn(3) = 0", "figure(2) = 3", "figure(0) = 0", "put(0, 2) = 2",
                "parent(2, false) = 0", "figure(4) = 1", "figure(7) = 2", "turn(0) = 1", "figure(2) = 0",
                "turn(0) = 1", "turn(3) = 2");
        run("8 each branch keeps its own list of undone ones",
                "put(0, 1) = 1", "undo() = 0", "turn(1) = 0", "figure(3) = 0", "redo() = " + NSEE,
                "put(0, 2) = 2", "put(0, 3) = 3", "undo() = 2", "undo() = 0", "figure(3) = 2", "turn(0) = 0",
                "figure(3) = 1", "redo() = 1", "turn(1) = 0", "redo() = 2", "redo() = 3");
        run("8 turn takes branches alone", "turn(4) = " + IAE, "turn(-1) = " + IAE, "turn(" + MAX + ") = " + IAE,
                "figure(2) = 0", "turn(3) = 0", "turn(4) = " + IAE, "figure(2) = 3");
    }

    private static void go() {
        run("9 go comes to a revision",
                "put(0, 1) = 1", "put(0, 2) = 2", "go(1)", "figure(0) = 1", "figure(4) = 1", "figure(5) = 0",
                "put(0, 3) = 3", "parent(3, false) = 1", "go(2)", "figure(0) = 2", "go(0)", "figure(0) = 0");
        run("9 go empties the list of undone ones, also on the way to the present revision",
                "put(0, 1) = 1", "undo() = 0", "go(0)", "figure(3) = 0", "redo() = " + NSEE, "go(1)", "undo() = 0",
                "go(1)", "figure(3) = 0");
        run("9 go leaves the other branches alone",
                "turn(1) = 0", "put(0, 1) = 1", "undo() = 0", "turn(0) = 0", "go(1)", "figure(5) = 0", "turn(1) = 0",
                "figure(3) = 1");
        run("9 go takes revisions alone", "go(1) = " + IAE, "go(-1) = " + IAE, "put(0, 1) = 1", "undo() = 0",
                "go(2) = " + IAE, "go(" + MAX + ") = " + IAE, "go(" + MIN + ") = " + IAE, "figure(3) = 1",
                "figure(0) = 0", "crowd", "go(60) = " + IAE, "go(59)", "figure(0) = 59");
    }

    private static void undo() {
        run("10 undo goes to the first parent",
                "put(0, 1) = 1", "put(0, 2) = 2", "undo() = 1", "figure(0) = 1", "figure(3) = 1", "figure(1) = 3",
                "undo() = 0", "figure(3) = 2", "undo() = " + NSEE, "figure(3) = 2", "figure(0) = 0",
                "figure(5) = 0");
        run("10 undo of what was come to by go",
                "put(0, 1) = 1", "put(0, 2) = 2", "go(1)", "put(0, 3) = 3", "undo() = 1", "undo() = 0", "redo() = 1",
                "redo() = 3");
        run("10 undo of a merged revision",
                "put(0, 1) = 1", "turn(1) = 0", "put(1, 1) = 2", "merge(0, 0) = 2", "figure(0) = 3", "undo() = 2",
                "figure(4) = 1", "redo() = 3", "turn(0) = 1", "merge(1, 0) = 1", "undo() = 2", "undo() = 0");
        run("10 undo of 59 revisions", "crowd", "go(0)", "undo() = " + NSEE, "go(59)", "undo() = 58");
        undoAllAndRedoAll();
    }

    private static void undoAllAndRedoAll() {
        Run run = new Run("promises 10 and 11 undo and redo of all 59").rows("crowd");
        for (int r = 58; r >= 0; r--) {
            run.due("undo()", "" + r);
        }
        run.rows("undo() = " + NSEE, "figure(3) = 59", "prune() = 0");
        for (int r = 1; r <= 59; r++) {
            run.due("redo()", "" + r);
        }
        run.rows("redo() = " + NSEE);
    }

    private static void redo() {
        run("11 redo goes to the last of the undone ones",
                "put(0, 1) = 1", "put(0, 2) = 2", "undo() = 1", "undo() = 0", "redo() = 1", "figure(0) = 1",
                "figure(3) = 1", "figure(4) = 1", "undo() = 0", "redo() = 1", "redo() = 2", "figure(3) = 0",
                "redo() = " + NSEE, "figure(0) = 2", "figure(1) = 3");
        run("11 redo of a way that another branch did not go",
                "put(0, 1) = 1", "undo() = 0", "turn(1) = 0", "redo() = " + NSEE, "put(0, 2) = 2", "turn(0) = 0",
                "redo() = 1");
    }

    private static void merge() {
        run("12 merge with an ancestor does nothing (way 0)",
                "put(0, 1) = 1", "point(1)", "put(0, 2) = 2", "put(0, 3) = 3", "undo() = 2", "merge(1, 0) = 0",
                "merge(2, 1) = 0", "merge(0, 2) = 0", "figure(0) = 2", "figure(3) = 1", "figure(1) = 4",
                "redo() = 3");
        run("12 merge with a descendant comes to it (way 1)",
                "put(0, 1) = 1", "point(1)", "put(0, 2) = 2", "put(0, 3) = 3", "turn(1) = 1", "undo() = 0",
                "merge(0, 0) = 1", "figure(0) = 3", "figure(5) = 3", "figure(3) = 0", "figure(1) = 4",
                "figure(4) = 3", "merge(0, 0) = 0");
        run("12 merge makes a revision with two parents (way 2)",
                "put(0, 1) = 1", "point(1)", "put(0, 2) = 2", "turn(1) = 1", "put(1, 9) = 3", "put(1, 8) = 4",
                "undo() = 3", "merge(0, 0) = 2", "figure(0) = 5", "figure(5) = 5", "figure(4) = 2", "figure(3) = 0",
                "parent(5, false) = 3", "parent(5, true) = 2", "value(5, 0, 0) = 2", "value(5, 1, 0) = 9",
                "merge(0, 0) = 0", "turn(0) = 2", "merge(1, 0) = 1", "figure(4) = 5");
        run("12 way 0 and way 1 by a second parent",
                "put(0, 1) = 1", "turn(1) = 0", "put(1, 1) = 2", "merge(0, 0) = 2", "go(3)", "merge(0, 0) = 0",
                "turn(0) = 1", "merge(1, 0) = 1", "figure(0) = 3");
        run("12 merge of the same change on both ways makes a revision all the same",
                "put(0, 1) = 1", "turn(1) = 0", "put(0, 1) = 2", "merge(0, 0) = 2", "differ(3, 1) = 0",
                "differ(3, 2) = 0", "parent(3, true) = 1", "conflicts() = 0");
        run("12 merge takes branches and sides alone",
                "put(0, 1) = 1", "undo() = 0", "merge(4, 0) = " + IAE, "merge(-1, 0) = " + IAE,
                "merge(0, 3) = " + IAE, "merge(0, -1) = " + IAE, "merge(1, " + MAX + ") = " + IAE,
                "merge(" + MIN + ", 1) = " + IAE, "merge(9, 9) = " + IAE, "figure(3) = 1", "figure(1) = 2");
        run("12 a conflict that is left changes nothing",
                "put(0, 1) = 1", "turn(1) = 0", "put(0, 2) = 2", "put(1, 3) = 3", "undo() = 2",
                "merge(0, 0) = " + ISE, "figure(0) = 2", "figure(1) = 4", "figure(3) = 1", "figure(4) = 1",
                "redo() = 3");
        run("12 a conflict settled for the present revision",
                "put(0, 1) = 1", "add(2, 5) = 2", "turn(1) = 0", "put(0, 2) = 3", "put(1, 7) = 4",
                "merge(0, 1) = 2", "value(5, 0, 0) = 2", "value(5, 1, 0) = 7", "value(5, 2, 0) = 5",
                "parent(5, false) = 4", "parent(5, true) = 2");
        run("12 a conflict settled for the branch's revision",
                "put(0, 1) = 1", "add(2, 5) = 2", "turn(1) = 0", "put(0, 2) = 3", "put(1, 7) = 4",
                "merge(0, 2) = 2", "value(5, 0, 0) = 1", "value(5, 1, 0) = 7", "value(5, 2, 0) = 5");
        String[] crissCross = {"put(0, 1) = 1", "turn(1) = 0", "add(2, 10) = 2", "point(2)", "merge(0, 0) = 2",
                "turn(0) = 1", "merge(2, 0) = 2", "figure(0) = 4", "base(1) = 2"};
        run("12 the base of a criss-cross is the later one, which has the counter already", crissCross,
                "put(1, 5) = 5", "merge(1, 0) = 2", "value(6, 2, 0) = 10", "value(6, 0, 0) = 1", "value(6, 1, 0) = 5",
                "conflicts() = 0");
        run("12 the base of a criss-cross is the later one, which has not the number", crissCross,
                "put(0, 5) = 5", "merge(1, 0) = " + ISE, "conflicts() = 1");
    }

    private static void mergeFields() {
        run("12 numbers: the one that differs, or the same one",
                "put(0, 1) = 1", "put(1, 1) = 2", "point(1)", "put(0, 2) = 3", "turn(1) = 2", "put(1, 2) = 4",
                "merge(0, 0) = 2", "value(5, 0, 0) = 2", "value(5, 1, 0) = 2", "conflicts() = 0");
        run("12 a number that is the same as in the base again is no change",
                "put(0, 1) = 1", "put(0, 0) = 2", "turn(1) = 0", "put(0, 3) = 3", "merge(0, 0) = 2",
                "value(4, 0, 0) = 3", "conflicts() = 0");
        run("12 both numbers can be conflicts",
                "put(0, 1) = 1", "put(1, 1) = 2", "turn(1) = 0", "put(0, 2) = 3", "put(1, 2) = 4",
                "merge(0, 0) = " + ISE, "conflicts() = 3", "merge(0, 2) = 2", "value(5, 0, 0) = 1",
                "value(5, 1, 0) = 1", "conflicts() = 3");
        run("12 counters: what both ways added, also the same",
                "add(2, 100) = 1", "point(1)", "add(2, 5) = 2", "add(3, 1) = 3", "turn(1) = 1", "add(2, 5) = 4",
                "add(3, -4) = 5", "merge(0, 0) = 2", "value(6, 2, 0) = 110", "value(6, 3, 0) = -3",
                "conflicts() = 0");
        run("12 counters beyond ints",
                "add(2, " + MAX + ") = 1", "add(2, " + MAX + ") = 2", "turn(1) = 0", "add(2, " + MAX + ") = 3",
                "merge(0, 0) = 2", "value(4, 2, 0) = 6442450941");
        run("12 sets: what both have, and what one has and the base has not",
                "mark(4, 0, true) = 1", "mark(4, 1, true) = 2", "mark(4, 2, true) = 3", "mark(4, 31, true) = 4",
                "point(1)", "mark(4, 0, false) = 5", "mark(4, 1, false) = 6", "mark(4, 5, true) = 7",
                "mark(4, 6, true) = 8", "turn(1) = 4", "mark(4, 1, false) = 9", "mark(4, 2, false) = 10",
                "mark(4, 6, true) = 11", "mark(4, 7, true) = 12", "merge(0, 0) = 2",
                "value(13, 4, 0) = 2147483872", "value(13, 5, 0) = 0", "conflicts() = 0");
        run("12 sets: an element that was taken out and put in again is no change",
                "mark(5, 3, true) = 1", "point(1)", "mark(5, 3, false) = 2", "mark(5, 3, true) = 3", "turn(1) = 1",
                "mark(5, 3, false) = 4", "merge(0, 0) = 2", "value(5, 5, 0) = 0");
    }

    private static void mergeLists() {
        joined("one way alone changed the list", "1 2 3", "1 2 3 4", "1 2 3", "1 2 3 4");
        joined("the same change on both ways", "1 2 3", "1 3", "1 3", "1 3");
        joined("the changes are far apart", "1 2 3", "0 1 2 3", "1 2", "0 1 2");
        joined("both take out", "1 2 3", "2 3", "1 2", "2");
        joined("both replace", "1 2 3 4 5", "1 9 3 4 5", "1 2 3 8 8 5", "1 9 3 8 8 5");
        joined("both put in, at two places", "1 2", "5 1 2", "1 6 2", "5 1 6 2");
        joined("all is taken out, and one put behind", "1 2", "", "1 2 3", "3");
        joined("all is taken out, and one put before", "1 2", "", "3 1 2", "3");
        conflict("one is put in amidst what is taken out", "1 2", "", "1 3 2");
        conflict("both put in at the same place", "1 2", "1 5 2", "1 6 2");
        conflict("both put into an empty list", "", "5", "6");
        conflict("one puts in more of the same at the same place", "", "5", "5 6");
        conflict("both replace the same", "1 2 3", "1 5 3", "1 6 3");
        conflict("one takes out what the other replaces", "1 2 3", "1 3", "1 6 3");
        conflict("the stretches overlap", "1 2 3", "9 3", "1 8");
        conflict("one stretch is inside the other", "1 2 3 4", "9", "1 2 8 4");
    }

    private static void mergeListEdges() {
        joined("stretches that touch", "1 2", "9 2", "1 8", "9 8");
        joined("put in where the other's stretch begins", "1 2 3", "1 9 2 3", "1 3", "1 9 3");
        joined("put in where the other's stretch ends", "1 2 3", "1 2 9 3", "1 3", "1 9 3");
        conflict("put in within the other's stretch", "1 2 3 4", "1 2 9 3 4", "1 4");
        joined("what is the same at the beginning is taken off first", "1 1 1", "1 1", "2 1 1", "2 1");
        conflict("so the last one of these is the one taken out", "1 1 1", "1 1", "1 1 2");
        conflict("put in among equal ints", "1 1", "1 5 1", "1 6 1");
        joined("an equal int is put in behind all", "1 1", "1", "1 1 1", "1 1");
        joined("the ends do not count again what the beginnings took", "1 2 1", "1 2 1 2 1", "3 1 2 1",
                "3 1 2 1 2 1");
        conflict("the ends do not count again, and both are at the end", "1 2 1", "1 2 1 2 1", "1 2 1 3");
        joined("8 ints are not too many", "1 2 3 4 5 6", "0 1 2 3 4 5 6", "1 2 3 4 5 6 7", "0 1 2 3 4 5 6 7");
        conflict("9 ints are too many", "1 2 3 4 5 6", "8 9 1 2 3 4 5 6", "1 2 3 4 5 6 7");
        joined("as many taken out as put in", "1 2 3 4 5 6 7 8", "9 2 3 4 5 6 7 8", "1 2 3 4 5 6 7 9",
                "9 2 3 4 5 6 7 9");
        joined("put in where there is room by the other", "1 2 3 4 5 6 7", "3 4 5 6 7", "1 2 3 4 5 6 7 8",
                "3 4 5 6 7 8");
        joined("an int 0 is an int like others", "1", "1 0", "0 1", "0 1 0");
        joined("an int 0 behind all is taken out", "1 0", "1", "2 1 0", "2 1");
        conflict("12 ints are too many", "", "1 2 3 4 5 6 7 8", "9 9 9 9");
        conflict("16 ints are too many", "5 6", "1 2 3 4 5 6 5 6", "5 6 7 8 9 9 9 9");
        joined("ints far apart", "" + MIN + " " + MAX, "" + MAX, "" + MIN + " " + MAX + " -1", "" + MAX + " -1");
        run("12 lists: both lists and numbers can be conflicts at once, and each is settled",
                "insert(6, 0, 1) = 1", "insert(7, 0, 2) = 2", "put(1, 3) = 3", "turn(1) = 0", "insert(6, 0, 4) = 4",
                "insert(7, 0, 5) = 5", "put(1, 6) = 6", "insert(7, 1, 7) = 7", "merge(0, 0) = " + ISE,
                "conflicts() = 194", "merge(0, 2) = 2", "conflicts() = 194", "value(8, 6, 0) = 1",
                "value(8, 7, 0) = 2", "value(8, 7, -1) = 1", "value(8, 1, 0) = 3", "differ(8, 3) = 0");
        run("12 lists: a joined one next to one that is a conflict",
                "insert(6, 0, 1) = 1", "insert(7, 0, 1) = 2", "insert(7, 1, 2) = 3", "point(1)", "insert(6, 1, 8) = 4",
                "insert(7, 0, 8) = 5", "turn(1) = 3", "insert(6, 1, 9) = 6", "insert(7, 2, 9) = 7",
                "merge(0, 1) = 2", "conflicts() = 64", "value(8, 6, -1) = 2", "value(8, 6, 1) = 9",
                "value(8, 7, -1) = 4", "value(8, 7, 0) = 8", "value(8, 7, 1) = 1", "value(8, 7, 2) = 2",
                "value(8, 7, 3) = 9");
    }

    private static void mergeWithoutRoom() {
        run("12 with 60 revisions way 0 and way 1 can be gone",
                "crowd", "merge(1, 0) = 0", "turn(1) = 0", "merge(0, 0) = 1", "figure(0) = 59", "figure(1) = 60");
        run("12 with 60 revisions way 2 throws",
                "put(0, 1) = 1", "turn(1) = 0", "put(1, 2) = 2", "crowd", "undo() = 58", "merge(0, 0) = " + ISE,
                "conflicts() = 0", "merge(0, 1) = " + ISE, "figure(0) = 58", "figure(1) = 60", "figure(3) = 1",
                "redo() = 59", "merge(0, 5) = " + IAE, "merge(5, 0) = " + IAE);
        run("12 with 60 revisions conflicts are told all the same",
                "put(0, 1) = 1", "turn(1) = 0", "put(0, 2) = 2", "crowd", "merge(0, 0) = " + ISE, "conflicts() = 1",
                "merge(0, 3) = " + IAE, "conflicts() = 0", "merge(0, 1) = " + ISE, "conflicts() = 1",
                "merge(0, 2) = " + ISE, "conflicts() = 1", "merge(2, 2) = 0", "conflicts() = 0",
                "value(59, 0, 0) = 2");
        run("12 the 60th revision can be a merged one",
                "put(0, 1) = 1", "turn(1) = 0", "put(1, 2) = 2", "crowd", "turn(2) = 0", "go(58)", "turn(1) = 59",
                "go(58)", "prune() = 1", "figure(1) = 59", "merge(0, 0) = 2", "figure(0) = 59", "figure(1) = 60",
                "value(59, 0, 0) = 1", "value(59, 1, 0) = 2", "parent(59, false) = 58", "parent(59, true) = 1");
    }

    private static void conflicts() {
        String[] twoWays = {"put(0, 1) = 1", "insert(7, 0, 1) = 2", "turn(1) = 0", "put(0, 2) = 3",
                "insert(7, 0, 2) = 4", "conflicts() = 0"};
        run("13 conflicts of the latest merge, settled or not", twoWays,
                "merge(0, 0) = " + ISE, "conflicts() = 129", "conflicts() = 129", "merge(0, 1) = 2",
                "conflicts() = 129", "figure(0) = 5");
        run("13 no conflicts after a merge without any", twoWays,
                "merge(0, 0) = " + ISE, "merge(1, 0) = 0", "conflicts() = 0", "merge(0, 2) = 2", "conflicts() = 129",
                "turn(0) = 2", "merge(1, 0) = 1", "conflicts() = 0");
        run("13 no conflicts after an illegal argument", twoWays,
                "merge(0, 0) = " + ISE, "merge(0, 3) = " + IAE, "conflicts() = 0", "merge(0, 0) = " + ISE,
                "conflicts() = 129", "merge(4, 0) = " + IAE, "conflicts() = 0", "merge(0, 0) = " + ISE,
                "merge(-1, 0) = " + IAE, "conflicts() = 0");
        run("13 other calls leave conflicts as they are", twoWays,
                "merge(0, 0) = " + ISE, "put(0, 9) = 5", "undo() = 4", "redo() = 5", "go(4)", "point(3)", "turn(2) = 0",
                "base(0) = 0", "prune() = 1", "put(4, 4) = " + IAE, "conflicts() = 129");
        run("13 a merge of other fields after one with conflicts", twoWays,
                "merge(0, 0) = " + ISE, "turn(2) = 0", "add(2, 1) = 5", "merge(0, 0) = 2", "conflicts() = 0");
    }

    private static void base() {
        run("14 base is the shared ancestor with the greatest number",
                "base(0) = 0", "put(0, 1) = 1", "base(0) = 1", "base(1) = 0", "point(1)", "put(0, 2) = 2",
                "base(1) = 1", "turn(1) = 1", "base(0) = 1", "put(0, 3) = 3", "base(0) = 1", "base(2) = 0",
                "base(1) = 3");
        run("14 base goes by second parents, too",
                "put(0, 1) = 1", "put(0, 2) = 2", "turn(1) = 0", "put(1, 1) = 3", "merge(0, 0) = 2", "base(0) = 2",
                "turn(0) = 2", "put(0, 3) = 5", "base(1) = 2", "turn(1) = 4", "base(0) = 2");
        run("14 base of a criss-cross is the later one",
                "put(0, 1) = 1", "turn(1) = 0", "put(1, 1) = 2", "point(2)", "merge(0, 0) = 2", "turn(0) = 1",
                "merge(2, 0) = 2", "figure(0) = 4", "base(1) = 2", "turn(1) = 3", "base(0) = 2");
        run("14 base takes branches alone, and changes nothing", "put(0, 1) = 1", "undo() = 0",
                "base(4) = " + IAE, "base(-1) = " + IAE, "base(" + MAX + ") = " + IAE, "base(3) = 0",
                "figure(3) = 1");
        run("14 base with 60 revisions", "crowd", "base(0) = 59", "point(1)", "undo() = 58", "base(1) = 58",
                "turn(1) = 59", "base(0) = 58");
    }

    private static void value() {
        run("15 value of each kind of field, whatever i is for all but lists",
                "put(0, -3) = 1", "put(1, 4) = 2", "add(2, -5) = 3", "add(3, 6) = 4", "mark(4, 31, true) = 5",
                "mark(5, 0, true) = 6", "insert(6, 0, -7) = 7", "insert(7, 0, 8) = 8",
                "value(8, 0, 0) = -3", "value(8, 1, -1) = 4", "value(8, 2, 99) = -5", "value(8, 3, " + MIN + ") = 6",
                "value(8, 4, -2) = 2147483648", "value(8, 5, 8) = 1", "value(8, 6, 0) = -7", "value(8, 7, 0) = 8",
                "value(8, 6, -1) = 1", "value(7, 7, -1) = 0");
        run("15 value of a set with all elements", allElements(),
                "value(32, 4, 0) = 4294967295", "value(32, 5, 0) = 0", "value(31, 4, 0) = 2147483647");
        run("15 value of a list has no place behind its end",
                "insert(6, 0, 5) = 1", "insert(6, 1, 6) = 2", "value(2, 6, 1) = 6", "value(2, 6, 2) = " + IOOBE,
                "value(2, 6, -2) = " + IOOBE, "value(2, 6, 7) = " + IOOBE, "value(2, 6, 8) = " + IOOBE,
                "value(2, 6, " + MAX + ") = " + IOOBE, "value(2, 6, " + MIN + ") = " + IOOBE,
                "value(2, 7, 0) = " + IOOBE, "value(1, 6, 1) = " + IOOBE);
        run("15 value takes revisions and fields alone",
                "value(1, 0, 0) = " + IAE, "value(-1, 0, 0) = " + IAE, "value(0, 8, 0) = " + IAE,
                "value(0, -1, 0) = " + IAE, "value(" + MAX + ", 0, 0) = " + IAE, "value(0, " + MIN + ", 0) = " + IAE,
                "value(1, 6, 5) = " + IAE, "value(0, 8, 5) = " + IAE);
        run("15 value of a revision that is not the present one never changes",
                "put(0, 1) = 1", "insert(6, 0, 1) = 2", "go(0)", "put(0, 2) = 3", "value(2, 0, 0) = 1",
                "value(2, 6, 0) = 1", "value(3, 6, -1) = 0", "value(0, 0, 0) = 0");
    }

    private static String[] allElements() {
        String[] rows = new String[32];
        for (int e = 0; e < 32; e++) {
            rows[e] = "mark(4, " + e + ", true) = " + (e + 1);
        }
        return rows;
    }

    private static void differ() {
        run("16 differ tells the fields that are not the same",
                "put(0, 1) = 1", "put(1, 1) = 2", "add(2, 1) = 3", "add(3, 1) = 4", "mark(4, 1, true) = 5",
                "mark(5, 1, true) = 6", "insert(6, 0, 1) = 7", "insert(7, 0, 1) = 8",
                "differ(0, 1) = 1", "differ(1, 2) = 2", "differ(2, 3) = 4", "differ(3, 4) = 8", "differ(4, 5) = 16",
                "differ(5, 6) = 32", "differ(6, 7) = 64", "differ(7, 8) = 128", "differ(0, 8) = 255",
                "differ(8, 0) = 255", "differ(8, 8) = 0", "differ(4, 2) = 12");
        run("16 lists differ by their order, their ints or their length",
                "insert(6, 0, 1) = 1", "insert(6, 1, 2) = 2", "go(0)", "insert(6, 0, 2) = 3", "insert(6, 1, 1) = 4",
                "differ(2, 4) = 64", "go(0)", "insert(6, 0, 0) = 5", "differ(0, 5) = 64", "differ(1, 5) = 64",
                "go(1)", "insert(6, 0, 1) = 6", "go(1)", "insert(6, 1, 1) = 7", "differ(6, 7) = 0",
                "differ(6, 1) = 64");
        run("16 fields that came about in other ways are the same",
                "add(2, 5) = 1", "mark(4, 3, true) = 2", "go(0)", "mark(4, 3, true) = 3", "add(2, 2) = 4",
                "add(2, 3) = 5", "differ(2, 5) = 0", "differ(2, 4) = 4");
        run("16 counters that differ beyond 32 bits alone",
                "add(2, " + MIN + ") = 1", "add(2, " + MIN + ") = 2", "differ(0, 2) = 4");
        run("16 differ takes revisions alone", "differ(0, 1) = " + IAE, "differ(1, 0) = " + IAE,
                "differ(-1, 0) = " + IAE, "differ(0, -1) = " + IAE, "differ(" + MAX + ", " + MIN + ") = " + IAE,
                "differ(0, 0) = 0");
    }

    private static void parent() {
        run("17 parent tells the first and the second one",
                "parent(0, false) = -1", "parent(0, true) = -1", "put(0, 1) = 1", "parent(1, false) = 0",
                "parent(1, true) = -1", "turn(1) = 0", "put(1, 1) = 2", "merge(0, 0) = 2", "parent(3, false) = 2",
                "parent(3, true) = 1", "put(1, 2) = 4", "parent(4, false) = 3", "parent(4, true) = -1");
        run("17 parent takes revisions alone", "parent(1, false) = " + IAE, "parent(1, true) = " + IAE,
                "parent(-1, false) = " + IAE, "parent(-1, true) = " + IAE, "parent(" + MAX + ", false) = " + IAE,
                "parent(" + MIN + ", true) = " + IAE);
    }

    private static void prune() {
        run("18 prune takes away what no branch needs, and numbers the others anew",
                "put(0, 1) = 1", "put(0, 2) = 2", "go(1)", "put(0, 3) = 3", "put(0, 4) = 4", "go(0)", "put(0, 5) = 5",
                "go(4)", "prune() = 2", "figure(1) = 4", "figure(0) = 3", "figure(4) = 3", "value(1, 0, 0) = 1",
                "value(2, 0, 0) = 3", "value(3, 0, 0) = 4", "parent(3, false) = 2", "parent(2, false) = 1",
                "parent(1, false) = 0", "parent(0, false) = -1", "value(4, 0, 0) = " + IAE, "prune() = 0",
                "put(0, 6) = 4", "value(4, 1, 0) = 0");
        run("18 prune keeps what is undone, on every branch",
                "put(0, 1) = 1", "go(0)", "turn(2) = 0", "put(0, 2) = 2", "put(0, 3) = 3", "undo() = 2", "undo() = 0",
                "turn(0) = 0", "prune() = 1", "figure(1) = 3", "turn(2) = 0", "figure(3) = 2", "redo() = 1",
                "value(1, 0, 0) = 2", "redo() = 2", "value(2, 0, 0) = 3", "redo() = " + NSEE);
        run("18 prune takes away what was undone once and is no more",
                "put(0, 1) = 1", "put(0, 2) = 2", "undo() = 1", "undo() = 0", "redo() = 1", "go(1)", "prune() = 1",
                "figure(1) = 2", "redo() = " + NSEE);
        run("18 prune keeps both parents of a merged revision, and renumbers them",
                "put(0, 9) = 1", "go(0)", "put(0, 1) = 2", "turn(1) = 0", "put(0, 8) = 3", "go(0)", "put(1, 1) = 4",
                "merge(0, 0) = 2", "turn(0) = 2", "go(0)", "prune() = 2", "figure(1) = 4", "figure(5) = 3",
                "figure(4) = 0", "parent(3, false) = 2", "parent(3, true) = 1", "value(1, 0, 0) = 1",
                "value(2, 1, 0) = 1", "value(3, 0, 0) = 1", "turn(1) = 3", "undo() = 2", "base(1) = 2", "redo() = 3");
        run("18 prune keeps an undone merged revision's second parent",
                "put(0, 1) = 1", "turn(1) = 0", "put(1, 1) = 2", "merge(0, 0) = 2", "undo() = 2", "undo() = 0",
                "turn(0) = 1", "go(0)", "prune() = 0", "turn(1) = 0", "redo() = 2", "redo() = 3");
        run("18 ancestors are right after prune",
                "put(0, 9) = 1", "go(0)", "put(0, 1) = 2", "point(1)", "put(0, 2) = 3", "turn(1) = 2", "put(1, 1) = 4",
                "prune() = 1", "base(0) = 1", "merge(2, 0) = 0", "merge(0, 0) = 2", "figure(0) = 4",
                "value(4, 0, 0) = 2", "value(4, 1, 0) = 1", "merge(0, 0) = 0", "turn(0) = 2", "merge(1, 0) = 1");
        run("18 prune of all but revision 0",
                "put(0, 1) = 1", "insert(6, 0, 1) = 2", "go(0)", "prune() = 2", "figure(1) = 1", "value(0, 6, -1) = 0",
                "put(1, 5) = 1", "value(1, 0, 0) = 0", "value(1, 6, -1) = 0", "value(1, 1, 0) = 5");
        run("18 prune makes room again", "crowd", "put(0, 1) = " + ISE, "prune() = 0", "go(30)", "prune() = 29",
                "figure(1) = 31", "put(0, 1) = 31", "value(31, 3, 0) = 30", "crowd", "figure(1) = 60");
        run("18 prune takes away nothing of a new object, and nothing twice", "prune() = 0", "figure(1) = 1",
                "put(0, 1) = 1", "prune() = 0", "go(0)", "prune() = 1", "prune() = 0", "figure(1) = 1");
        run("18 prune takes away 59 of 60", "crowd", "go(0)", "prune() = 59", "figure(1) = 1", "figure(0) = 0",
                "go(1) = " + IAE);
        for (int b = 0; b <= 3; b++) {
            pruneForOneBranch(b);
        }
    }

    /** Each branch alone keeps what it points to and what it has undone, and no more. */
    private static void pruneForOneBranch(int b) {
        int other = b == 3 ? 0 : b + 1;
        String[] before = {"put(0, 9) = 1", "go(0)", "turn(" + b + ") = 0", "put(0, 1) = 2", "put(0, 2) = 3",
            "put(0, 3) = 4"};
        run("18 prune keeps the ancestors of one to which a branch points, and not what comes after it", before,
                "go(3)", "turn(" + other + ") = 0", "prune() = 2", "figure(1) = 3", "figure(" + (4 + b) + ") = 2",
                "value(1, 0, 0) = 1", "value(2, 0, 0) = 2", "parent(2, false) = 1", "turn(" + b + ") = 2",
                "undo() = 1", "undo() = 0");
        run("18 prune keeps the ancestors of one which is in a list of undone ones, and not what comes after it",
                before, "go(3)", "undo() = 2", "undo() = 0", "turn(" + other + ") = 0", "prune() = 2",
                "figure(1) = 3", "figure(" + (4 + b) + ") = 0", "turn(" + b + ") = 0", "figure(3) = 2", "redo() = 1",
                "value(1, 0, 0) = 1", "redo() = 2", "value(2, 0, 0) = 2", "redo() = " + NSEE);
        run("18 prune takes away what no branch points to, and no list has", before, "go(0)",
                "turn(" + other + ") = 0", "prune() = 4", "figure(1) = 1");
    }

    private static void figure() {
        run("19 figure tells how things stand",
                "put(0, 1) = 1", "point(3)", "put(0, 2) = 2", "turn(2) = 0", "put(0, 3) = 3", "put(0, 4) = 4",
                "undo() = 3", "undo() = 0", "redo() = 3", "figure(0) = 3", "figure(1) = 5", "figure(2) = 2",
                "figure(3) = 1", "figure(4) = 2", "figure(5) = 0", "figure(6) = 3", "figure(7) = 1", "turn(0) = 2",
                "figure(0) = 2", "figure(2) = 0", "figure(3) = 0");
        run("19 figure takes 0 .. 7 alone", "figure(8) = " + IAE, "figure(-1) = " + IAE, "figure(" + MAX + ") = " + IAE,
                "figure(" + MIN + ") = " + IAE, "figure(7) = 0");
    }

    private static void joined(String what, String x, String y, String z, String due) {
        ListWays.joined("promise 12 lists: " + what, x, y, z, due);
    }

    private static void conflict(String what, String x, String y, String z) {
        ListWays.conflict("promise 12 lists: " + what, x, y, z);
    }

    private static void run(String name, String... rows) {
        new Run("promise " + name).rows(rows);
    }

    private static void run(String name, String[] before, String... rows) {
        new Run("promise " + name).rows(before).rows(rows);
    }
}

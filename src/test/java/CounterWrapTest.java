/**
 * Counters are longs, which wrap, however large they come. One revision can
 * add 2^31 at most and there are 60, so calls alone have not been found to
 * bring a counter to 2^63: the tests at that edge lay one there, wherever the
 * object holds it, and go on with calls.
 */
public final class CounterWrapTest {
    private static final long MOST = Long.MAX_VALUE;
    private static final long LEAST = Long.MIN_VALUE;
    private static final int MAX = Run.MAX;
    private static final int MIN = Run.MIN;

    /** Counters that nothing else in an object is like, to be found there and laid anew. */
    private static final int MARK = 1_234_567_891;
    private static final int LATER_MARK = MARK + 7;
    private static final int LATEST_MARK = MARK + 11;

    public static void main(String[] args) {
        for (int f = 2; f <= 3; f++) {
            beyondInts(f);
            addWraps(f);
            mergeWraps(f);
            doubled(f);
            fivefold(f);
        }
        Report.end();
    }

    private static void beyondInts(int f) {
        String add = "add(" + f + ", ";
        new Run("COUNTERS (longs ..): just beyond the greatest int").rows(add + MAX + ") = 1", add + "1) = 2",
                add + "-1) = 3", "value(1, " + f + ", 0) = 2147483647", "value(2, " + f + ", 0) = 2147483648",
                "value(3, " + f + ", 0) = 2147483647", "differ(1, 3) = 0");
        new Run("COUNTERS (longs ..): just beyond the least int").rows(add + MIN + ") = 1", add + "-1) = 2",
                add + "1) = 3", "value(1, " + f + ", 0) = -2147483648", "value(2, " + f + ", 0) = -2147483649",
                "value(3, " + f + ", 0) = -2147483648", "differ(1, 3) = 0");
        new Run("COUNTERS (longs ..): 2^32 is another counter than 0").rows(add + MIN + ") = 1", add + MIN + ") = 2",
                "value(2, " + f + ", 0) = -4294967296", "differ(0, 2) = " + (1 << f));
    }

    private static void addWraps(int f) {
        added(f, MOST - 1, 1, MOST);
        added(f, MOST, 1, LEAST);
        added(f, MOST, 2, LEAST + 1);
        added(f, MOST - MAX, MAX, MOST);
        added(f, MOST - MAX + 1, MAX, LEAST);
        added(f, LEAST + 1, -1, LEAST);
        added(f, LEAST, -1, MOST);
        added(f, LEAST, -2, MOST - 1);
        added(f, LEAST, MIN, MOST - MAX);
        added(f, LEAST, 1, LEAST + 1);
        added(f, MOST, -1, MOST - 1);
    }

    private static void added(int f, long before, int by, long due) {
        Run run = new Run("COUNTERS (.. which wrap): add to " + before).rows("add(" + f + ", " + MARK + ") = 1");
        lay(run, MARK, before, 1, f);
        run.rows("add(" + f + ", " + by + ") = 2", "value(2, " + f + ", 0) = " + due,
                "value(1, " + f + ", 0) = " + before, "add(" + f + ", 0) = 2", "differ(1, 2) = " + (1 << f));
    }

    private static void mergeWraps(int f) {
        merged(f, 0, MOST - 1, 1, MOST);
        merged(f, 0, MOST, 1, LEAST);
        merged(f, 0, MOST, MOST, -2);
        merged(f, 0, LEAST, LEAST, 0);
        merged(f, 0, LEAST, -1, MOST);
        merged(f, 1, LEAST, 0, MOST);
        merged(f, -1, MOST, 0, LEAST);
        merged(f, MOST, LEAST, LEAST, LEAST + 1);
        merged(f, LEAST, MOST, MOST, MOST - 1);
        // The sum of y and z wraps and x brings it back.
        merged(f, MOST - 10, MOST - 7, MOST - 5, MOST - 2);
        merged(f, LEAST + 10, LEAST + 7, LEAST + 5, LEAST + 2);
    }

    private static void merged(int f, long x, long y, long z, long due) {
        Run run = new Run("COUNTERS (.. which wrap): y + z - x of " + y + ", " + z + ", " + x);
        run.rows("add(" + f + ", " + MARK + ") = 1", "point(1)", "add(" + f + ", " + (LATER_MARK - MARK) + ") = 2",
                "turn(1) = 1", "add(" + f + ", " + (LATEST_MARK - MARK) + ") = 3", "turn(0) = 2");
        lay(run, MARK, x, 1, f);
        lay(run, LATER_MARK, y, 2, f);
        lay(run, LATEST_MARK, z, 3, f);
        run.rows("base(1) = 1", "merge(1, 0) = 2", "conflicts() = 0", "value(4, " + f + ", 0) = " + due);
    }

    private static void lay(Run run, long mark, long counter, int r, int f) {
        if (Inside.lay(run.grove(), mark, counter) == 0) {
            throw new IllegalStateException("Inside finds no counter in the object: it must learn how they are held");
        }
        run.rows("value(" + r + ", " + f + ", 0) = " + counter);
    }

    /**
     * By calls alone: ways that were merged crosswise have a later base without
     * the counter, so that merging them doubles it, four revisions each time.
     */
    private static void doubled(int f) {
        Run run = new Run("a counter is y + z - x in any case: doubled by merging crosswise").rows(
                "add(" + f + ", " + MIN + ") = 1", "point(2)");
        long counter = MIN;
        for (int top = 1; top + 4 < 60; top += 4) {
            counter *= 2;
            run.ask("turn(1)");
            run.rows("go(0)", "put(0, " + top + ") = " + (top + 1), "point(3)", "merge(2, 2) = 2",
                    "turn(0) = " + top, "merge(3, 2) = 2", "base(1) = " + (top + 1), "merge(1, 1) = 2",
                    "figure(0) = " + (top + 4), "point(2)", "value(" + (top + 4) + ", " + f + ", 0) = " + counter);
        }
        run.rows("value(57, " + f + ", 0) = -35184372088832");
    }

    /**
     * The same with a third crosswise merge, which is the base of the last one:
     * five times the counter in eight revisions; searches came to hardly more.
     */
    private static void fivefold(int f) {
        String add = "add(" + f + ", " + MIN + ") = ";
        Run run = new Run("a counter is y + z - x in any case: five times as much in eight revisions").rows(
                add + 1, add + 2, add + 3, "point(2)");
        long counter = 3L * MIN;
        for (int top = 3; top + 8 < 60; top += 8) {
            run.ask("turn(1)");
            run.rows("go(0)", "put(0, " + top + ") = " + (top + 1), "point(3)", "merge(2, 2) = 2",
                    "turn(0) = " + top, "merge(3, 2) = 2", "base(1) = " + (top + 1), "merge(1, 1) = 2", "point(1)",
                    "value(" + (top + 4) + ", " + f + ", 0) = " + 2 * counter,
                    "turn(3) = " + (top + 1), "merge(2, 2) = 2", "turn(0) = " + (top + 4),
                    "base(3) = " + (top + 1), "merge(3, 1) = 2",
                    "value(" + (top + 6) + ", " + f + ", 0) = " + 3 * counter,
                    "turn(3) = " + (top + 5), "merge(1, 1) = 2", "turn(0) = " + (top + 6),
                    "base(3) = " + (top + 5), "merge(3, 1) = 2", "point(2)",
                    "value(" + (top + 8) + ", " + f + ", 0) = " + 5 * counter);
            counter *= 5;
        }
        run.rows("figure(0) = 59", "value(59, " + f + ", 0) = -503316480000000");
    }
}

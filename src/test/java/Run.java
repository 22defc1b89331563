/**
 * A run of calls on a new object. A row is a call and the answer that is due,
 * "call = answer", or the call alone if it answers nothing; "crowd" stands for
 * add(3, 1) until there are 60 revisions, "crowd but 1" until there are 59.
 */
final class Run {
    static final String IAE = "throws.IllegalArgumentException";
    static final String ISE = "throws.IllegalStateException";
    static final String IOOBE = "throws.IndexOutOfBoundsException";
    static final String NSEE = "throws.NoSuchElementException";
    static final int MIN = Integer.MIN_VALUE;
    static final int MAX = Integer.MAX_VALUE;

    /** What later calls answer is free, so a test that makes more of them tests nothing. */
    private static final int MOST_CALLS = 512;

    private final String name;
    private final RevisionGrove grove = new RevisionGrove();
    private int calls;

    Run(String name) {
        this.name = name;
    }

    Run rows(String... rows) {
        for (String row : rows) {
            row(row);
        }
        return this;
    }

    /** The answer of a call, whatever it is. */
    String ask(String call) {
        calls++;
        if (calls > MOST_CALLS) {
            throw new IllegalStateException("more than " + MOST_CALLS + " calls in " + name);
        }
        return Calls.answer(grove, call);
    }

    void due(String call, String due) {
        Report.due(name, call, ask(call), due);
    }

    int calls() {
        return calls;
    }

    RevisionGrove grove() {
        return grove;
    }

    private void row(String row) {
        if (row.startsWith("crowd")) {
            crowd(row.equals("crowd but 1") ? 59 : 60);
            return;
        }
        int sign = row.indexOf(" = ");
        due(sign < 0 ? row : row.substring(0, sign), sign < 0 ? "done" : row.substring(sign + 3));
    }

    private void crowd(int revisions) {
        for (int n = Integer.parseInt(ask("figure(1)")); n < revisions; n++) {
            ask("add(3, 1)");
        }
    }
}

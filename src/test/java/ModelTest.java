import java.util.ArrayList;
import java.util.List;
import java.util.Map;
import java.util.TreeMap;

/**
 * Long mixed runs of calls on RevisionGrove and on PlainGrove: every answer,
 * and after every call all that can be seen of the state, must be the same.
 * The runs are drawn by a fixed rule, so they are the same ones every time.
 */
public final class ModelTest {
    private static final int RUNS = 400;
    private static final int CALLS = 500;

    /** Events that the runs must meet, or they would not try what they are here to try. */
    private static final List<String> MUST_MEET = List.of(
            "way 0", "way 1", "no conflict", "conflicts with side 0", "conflicts with side 1",
            "conflicts with side 2", "full", "lists overlap", "lists grow at the same place",
            "lists too long", "lists joined, y first", "lists joined, z first", "lists touch",
            "lists joined to 8", "prune takes some", "put at 60 throws.IllegalStateException",
            "add at 60 throws.IllegalStateException", "mark at 60 throws.IllegalStateException",
            "insert at 60 throws.IllegalStateException", "remove at 60 throws.IllegalStateException",
            "merge at 60 throws.IllegalStateException", "put at 60 done", "add at 60 done", "mark at 60 done",
            "insert at 60 throws.IndexOutOfBoundsException", "redo at 60 done", "merge at 60 done");

    private final RevisionGrove grove = new RevisionGrove();
    private final PlainGrove plain = new PlainGrove();
    private final List<String> calls = new ArrayList<>();
    private final Map<String, Integer> met;
    private long drawn;
    /** Some runs keep to few fields and prune seldom, so that lists and the limit of 60 are met. */
    private final boolean listsAlone;
    private final boolean crowded;

    private ModelTest(int run, Map<String, Integer> met) {
        this.met = met;
        this.drawn = run * 7919L + 17;
        this.listsAlone = run % 3 == 0;
        this.crowded = run % 4 == 1;
    }

    public static void main(String[] args) {
        Map<String, Integer> met = new TreeMap<>();
        for (int run = 0; run < RUNS; run++) {
            String fault = new ModelTest(run, met).fault();
            if (fault != null) {
                System.out.println("run " + run + ": " + fault);
                System.exit(1);
            }
        }
        boolean all = true;
        for (String event : MUST_MEET) {
            if (met.getOrDefault(event, 0) < 3) {
                System.out.println("the runs hardly meet: " + event);
                all = false;
            }
        }
        System.out.println(RUNS + " runs of " + CALLS + " calls compared");
        if (!all) {
            System.exit(1);
        }
    }

    /** Makes the run: null, or what was wrong first. */
    private String fault() {
        for (int n = 0; n < CALLS; n++) {
            String call = nextCall();
            boolean full = plain.figure(1) == 60;
            String due = Calls.answer(plain, call);
            String got = Calls.answer(grove, call);
            calls.add(call + " = " + got);
            note(call, due, full);
            if (!got.equals(due)) {
                return call + " answered " + got + ", due is " + due + tail();
            }
            String seen = difference();
            if (seen != null) {
                return "after " + call + ": " + seen + tail();
            }
        }
        return null;
    }

    private String tail() {
        return "\nlatest calls: " + calls.subList(Math.max(0, calls.size() - 40), calls.size());
    }

    private void note(String call, String due, boolean full) {
        String name = call.substring(0, call.indexOf('('));
        if (full) {
            count(name + " at 60 " + (due.startsWith("throws.") ? due : "done"));
        }
        if (name.equals("merge")) {
            for (String event : plain.met.split("; ")) {
                count(event);
            }
        }
        if (name.equals("prune") && !due.equals("0")) {
            count("prune takes some");
        }
    }

    private void count(String event) {
        met.merge(event, 1, Integer::sum);
    }

    /**
     * What is not the same in all that can be seen without a change of state; null if all is. These
     * looks make more than 512 calls in all: the class counts none, and the calls of the run are fewer.
     */
    private String difference() {
        for (int k = 0; k <= 7; k++) {
            if (grove.figure(k) != plain.figure(k)) {
                return "figure(" + k + ") is " + grove.figure(k) + ", due is " + plain.figure(k);
            }
        }
        if (grove.conflicts() != plain.conflicts()) {
            return "conflicts() is " + grove.conflicts() + ", due is " + plain.conflicts();
        }
        for (int r = 0; r < plain.figure(1); r++) {
            for (int f = 0; f < 8; f++) {
                int last = f < 6 ? -1 : (int) plain.value(r, f, -1) - 1;
                for (int i = -1; i <= last; i++) {
                    if (grove.value(r, f, i) != plain.value(r, f, i)) {
                        return "value(" + r + ", " + f + ", " + i + ") is " + grove.value(r, f, i)
                                + ", due is " + plain.value(r, f, i);
                    }
                }
            }
            if (grove.parent(r, false) != plain.parent(r, false) || grove.parent(r, true) != plain.parent(r, true)) {
                return "the parents of " + r + " are " + grove.parent(r, false) + " and " + grove.parent(r, true)
                        + ", due are " + plain.parent(r, false) + " and " + plain.parent(r, true);
            }
        }
        return null;
    }

    private String nextCall() {
        int kind = draw(100);
        if (kind < 30) {
            return nextChange();
        }
        if (kind < 36) {
            return "point(" + wild(4) + ")";
        }
        if (kind < 48) {
            return "turn(" + wild(4) + ")";
        }
        if (kind < 51) {
            return "go(" + wild(plain.figure(1)) + ")";
        }
        if (kind < 61) {
            return "undo()";
        }
        if (kind < 68) {
            return "redo()";
        }
        if (kind < 82) {
            return "merge(" + wild(4) + ", " + wild(3) + ")";
        }
        return nextQuestion(kind);
    }

    private String nextQuestion(int kind) {
        int count = plain.figure(1);
        if (kind < 86) {
            return "base(" + wild(4) + ")";
        }
        if (kind < 90) {
            return "value(" + wild(count) + ", " + wild(8) + ", " + (draw(11) - 2) + ")";
        }
        if (kind < 93) {
            return "differ(" + wild(count) + ", " + wild(count) + ")";
        }
        if (kind < 95) {
            return "parent(" + wild(count) + ", " + (draw(2) == 0) + ")";
        }
        if (kind < 96) {
            return "figure(" + wild(8) + ")";
        }
        return draw(crowded ? 12 : 3) == 0 ? "prune()" : "conflicts()";
    }

    private String nextChange() {
        int kind = listsAlone ? 60 + draw(40) : draw(100);
        if (kind < 20) {
            return "put(" + field(0) + ", " + (draw(8) == 0 ? edge() : draw(4)) + ")";
        }
        if (kind < 40) {
            return "add(" + field(2) + ", " + (draw(4) == 0 ? edge() : draw(5) - 2) + ")";
        }
        if (kind < 60) {
            return "mark(" + field(4) + ", " + (draw(2) == 0 ? wild(32) : draw(4)) + ", " + (draw(2) == 0) + ")";
        }
        int f = field(6);
        int length = f == 6 || f == 7 ? (int) plain.value(plain.figure(0), f, -1) : 0;
        if (kind < 88) {
            return "insert(" + f + ", " + wild(length + 1) + ", " + (draw(3) == 0 ? edge() : draw(3)) + ")";
        }
        return "remove(" + f + ", " + wild(length) + ")";
    }

    /** Mostly one of the two fields of a kind, sometimes another or none. */
    private int field(int first) {
        return draw(15) == 0 ? draw(12) - 2 : first + draw(2);
    }

    private int edge() {
        int[] edges = {Integer.MIN_VALUE, Integer.MAX_VALUE, -1, 0, 1 << 30};
        return edges[draw(edges.length)];
    }

    /** Mostly 0 .. below - 1, sometimes just outside or far off. */
    private int wild(int below) {
        int kind = draw(40);
        if (kind == 0) {
            return -1;
        }
        if (kind == 1) {
            return below;
        }
        if (kind == 2) {
            return edge();
        }
        return below == 0 ? 0 : draw(below);
    }

    /** A linear congruence: the upper bits of it are mixed well enough for this. */
    private int draw(int below) {
        drawn = drawn * 6364136223846793005L + 1442695040888963407L;
        return (int) ((drawn >>> 33) % below);
    }
}

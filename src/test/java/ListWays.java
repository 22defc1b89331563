import java.util.ArrayList;
import java.util.List;

/** Two ways that change a list of their base, each list written as its ints with spaces between them. */
final class ListWays {
    private ListWays() {
    }

    /** That list x on the base, y on the present way and z on the other one are joined, for both lists and ways. */
    static void joined(String what, String x, String y, String z, String due) {
        for (int f = 6; f <= 7; f++) {
            joined(what + ", list " + f, f, x, y, z, due);
            joined(what + ", list " + f + ", turned round", f, x, z, y, due);
        }
    }

    /** That they are a conflict, whichever of them is on the present way, and settled as asked. */
    static void conflict(String what, String x, String y, String z) {
        for (int f = 6; f <= 7; f++) {
            conflict(what + ", list " + f, f, x, y, z);
            conflict(what + ", list " + f + ", turned round", f, x, z, y);
        }
    }

    private static void joined(String name, int f, String x, String mine, String theirs, String due) {
        RevisionGrove grove = twoWays(f, x, mine, theirs);
        int before = grove.figure(1);
        Report.due(name, "merge(1, 0)", Calls.answer(grove, "merge(1, 0)"), "2");
        Report.due(name, "conflicts()", grove.conflicts(), 0);
        Report.due(name, "figure(1)", grove.figure(1), before + 1);
        Report.due(name, "the joined list", text(grove, f), due);
        Report.due(name, "the other list", text(grove, 13 - f), "");
        int merged = grove.figure(0);
        grove.go(0);
        write(grove, f, ints(due));
        int differing = grove.differ(merged, grove.figure(0)) & 1 << f;
        Report.due(name, "differ() from the same list made otherwise", differing, 0);
    }

    private static void conflict(String name, int f, String x, String mine, String theirs) {
        RevisionGrove grove = twoWays(f, x, mine, theirs);
        int before = grove.figure(1);
        Report.due(name, "merge(1, 0)", Calls.answer(grove, "merge(1, 0)"), Run.ISE);
        Report.due(name, "conflicts()", grove.conflicts(), 1 << f);
        Report.due(name, "figure(1)", grove.figure(1), before);
        Report.due(name, "the list as it was", text(grove, f), mine);
        Report.due(name, "merge(1, 1)", Calls.answer(grove, "merge(1, 1)"), "2");
        Report.due(name, "conflicts()", grove.conflicts(), 1 << f);
        Report.due(name, "the list settled for the present one", text(grove, f), mine);
        grove = twoWays(f, x, mine, theirs);
        Report.due(name, "merge(1, 2)", Calls.answer(grove, "merge(1, 2)"), "2");
        Report.due(name, "conflicts()", grove.conflicts(), 1 << f);
        Report.due(name, "the list settled for the other one", text(grove, f), theirs);
    }

    /** Branch 0, the present one, comes to list y and branch 1 to list z, both from a revision with list x. */
    private static RevisionGrove twoWays(int f, String x, String y, String z) {
        RevisionGrove grove = new RevisionGrove();
        write(grove, f, ints(x));
        grove.point(1);
        grove.turn(1);
        write(grove, f, ints(z));
        grove.put(0, 1);
        grove.turn(0);
        write(grove, f, ints(y));
        grove.put(1, 1);
        return grove;
    }

    /** Every int is taken out before others come in, so that the way to a list tells nothing of it. */
    private static void write(RevisionGrove grove, int f, List<Integer> list) {
        while (grove.value(grove.figure(0), f, -1) > 0) {
            grove.remove(f, 0);
        }
        for (int i = 0; i < list.size(); i++) {
            grove.insert(f, i, list.get(i));
        }
    }

    private static List<Integer> ints(String text) {
        List<Integer> ints = new ArrayList<>();
        for (String word : text.split(" ")) {
            if (!word.isEmpty()) {
                ints.add(Integer.valueOf(word));
            }
        }
        return ints;
    }

    private static String text(RevisionGrove grove, int f) {
        StringBuilder text = new StringBuilder();
        int r = grove.figure(0);
        for (int i = 0; i < grove.value(r, f, -1); i++) {
            text.append(i == 0 ? "" : " ").append(grove.value(r, f, i));
        }
        return text.toString();
    }
}

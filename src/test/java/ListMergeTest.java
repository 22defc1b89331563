import java.util.ArrayList;
import java.util.List;

/** The sentences of the document on lists in a merge, on both sides of every boundary that they name. */
public final class ListMergeTest {
    private static final int MOST_PUT_IN = 4;

    /** That the places from .. to - 1 of a list go out, and so many ints come in there. */
    private record Stretch(int from, int to, int in) {
        boolean isEmpty() {
            return from == to;
        }

        int growth() {
            return in - (to - from);
        }
    }

    public static void main(String[] args) {
        for (int length = 0; length <= 8; length++) {
            allStretches(length);
        }
        noChange();
        beginnings();
        ends();
        endsOrBegins();
        emptyAtTheSamePlace();
        moreThanEight();
        noneLeft();
        Report.end();
    }

    /** All pairs of changes of a list whose ints are all different, so that no two ints are the same by chance. */
    private static void allStretches(int length) {
        List<Stretch> stretches = new ArrayList<>();
        for (int from = 0; from <= length; from++) {
            for (int to = from; to <= length; to++) {
                for (int in = to == from ? 1 : 0; in <= MOST_PUT_IN && length - (to - from) + in <= 8; in++) {
                    stretches.add(new Stretch(from, to, in));
                }
            }
        }
        for (Stretch y : stretches) {
            for (Stretch z : stretches) {
                merge(length, y, z, 6 + (y.from + z.to) % 2);
            }
        }
    }

    private static void merge(int length, Stretch y, Stretch z, int f) {
        RevisionGrove grove = new RevisionGrove();
        for (int i = 0; i < length; i++) {
            grove.insert(f, i, i + 1);
        }
        grove.point(1);
        grove.turn(1);
        change(grove, f, z, 200);
        grove.put(0, 1);
        grove.turn(0);
        change(grove, f, y, 100);
        grove.put(1, 1);
        String name = "x has " + length + " ints, y's change is " + y + ", z's is " + z;
        List<Integer> due = joined(length, y, z);
        String call = "merge(1, 0)";
        Report.due(name, call, Calls.answer(grove, call), due == null ? Run.ISE : "2");
        Report.due(name, "conflicts()", grove.conflicts(), due == null ? 1 << f : 0);
        if (due != null) {
            Report.due(name, "the list", list(grove, f).toString(), due.toString());
        }
    }

    private static void change(RevisionGrove grove, int f, Stretch stretch, int first) {
        for (int n = stretch.from; n < stretch.to; n++) {
            grove.remove(f, stretch.from);
        }
        for (int i = 0; i < stretch.in; i++) {
            grove.insert(f, stretch.from + i, first + i);
        }
    }

    /** The list that is due, or null for a conflict. */
    private static List<Integer> joined(int length, Stretch y, Stretch z) {
        boolean sameTakenOut = y.equals(z) && y.in == 0;
        boolean apart = y.to <= z.from || z.to <= y.from;
        boolean samePlace = y.isEmpty() && z.isEmpty() && y.from == z.from;
        boolean fits = length + y.growth() + z.growth() <= 8;
        if (!sameTakenOut && (!apart || samePlace || !fits)) {
            return null;
        }
        List<Integer> joined = new ArrayList<>();
        for (int place = 0; place <= length; place++) {
            // What is put in where the other's stretch begins stands before what the other puts there.
            if (y.isEmpty()) {
                putIn(joined, place, y, 100);
                putIn(joined, place, z, 200);
            } else {
                putIn(joined, place, z, 200);
                putIn(joined, place, y, 100);
            }
            if (place < length && !(place >= y.from && place < y.to) && !(place >= z.from && place < z.to)) {
                joined.add(place + 1);
            }
        }
        return joined;
    }

    private static void putIn(List<Integer> joined, int place, Stretch stretch, int first) {
        for (int i = 0; place == stretch.from && i < stretch.in; i++) {
            joined.add(first + i);
        }
    }

    private static List<Integer> list(RevisionGrove grove, int f) {
        List<Integer> list = new ArrayList<>();
        int r = grove.figure(0);
        for (int i = 0; i < grove.value(r, f, -1); i++) {
            list.add((int) grove.value(r, f, i));
        }
        return list;
    }

    private static void noChange() {
        String name = "the one of y and z that differs from x, .. or y, if both .. are the same, or x";
        ListWays.joined(name + ": one differs", "1 2", "1 2 3", "1 2", "1 2 3");
        ListWays.joined(name + ": one is empty", "1 2", "", "1 2", "");
        ListWays.joined(name + ": both are the same, be they in one another's way", "1 2", "3", "3", "3");
        ListWays.joined(name + ": both have the same 8 ints", "1", "1 2 3 4 5 6 7 8", "1 2 3 4 5 6 7 8",
                "1 2 3 4 5 6 7 8");
        ListWays.joined(name + ": both put the same in at the same place", "1 2", "1 9 2", "1 9 2", "1 9 2");
        ListWays.joined(name + ": none differs", "1 2", "1 2", "1 2", "1 2");
        ListWays.joined(name + ": none differs, all are empty", "", "", "", "");
    }

    private static void beginnings() {
        String name = "first as many ints at their beginnings as are the same in both (as far as both go)";
        ListWays.joined(name + ": x goes on", "1 2 3", "1 2", "0 1 2 3", "0 1 2");
        ListWays.joined(name + ": y goes on", "1 2", "1 2 3", "0 1 2", "0 1 2 3");
        ListWays.conflict(name + ": so y's stretch is empty behind all", "1 2", "1 2 3", "1 2 4");
        ListWays.conflict(name + ": the last of equal ints goes out, not the first", "5 5", "5", "5 6");
        ListWays.joined(name + ": the first of equal ints stays", "5 5", "5", "6 5", "6");
        ListWays.conflict(name + ": another equal int comes behind all", "5 5", "5 5 5", "5 5 6");
        ListWays.joined(name + ": and not before all", "5 5", "5 5 5", "6 5 5", "6 5 5 5");
    }

    private static void ends() {
        String name = "and then as many at their ends as are the same in what is left of both";
        ListWays.joined(name + ": all of x", "1 2", "3 1 2", "1 2 4", "3 1 2 4");
        ListWays.joined(name + ": all of y", "1 2 3", "3", "1 2 3 4", "3 4");
        ListWays.joined(name + ": what the beginnings took is not taken again", "1 2 1", "1 2 1 2 1", "3 2 1",
                "3 2 1 2 1");
        ListWays.conflict(name + ": so the change is behind all", "1 2 1", "1 2 1 2 1", "1 2 1 4");
        ListWays.joined(name + ": of x nothing is left", "1 1", "1 1 1", "2 1", "2 1 1");
        ListWays.conflict(name + ": of y nothing is left, so its last ints go out", "1 2 1 2", "1 2", "1 2 3 2");
        ListWays.joined(name + ": of y nothing is left, so its first ints stay", "1 2 1 2", "1 2", "3 2 1 2", "3 2");
    }

    private static void endsOrBegins() {
        String name = "if the stretch of one ends before or where that of the other begins";
        ListWays.joined(name + ": one before", "1 2 3", "9 2 3", "1 2 8", "9 2 8");
        ListWays.joined(name + ": where", "1 2 3", "9 2 3", "1 8 3", "9 8 3");
        ListWays.conflict(name + ": one behind", "1 2 3", "9 9 3", "1 8 3");
        ListWays.joined(name + ": an empty one where the other begins", "1 2 3", "1 9 2 3", "1 8 3", "1 9 8 3");
        ListWays.joined(name + ": an empty one where the other ends", "1 2 3", "1 2 9 3", "1 8 3", "1 8 9 3");
        ListWays.conflict(name + ": an empty one inside", "1 2 3 4", "1 2 9 3 4", "1 8 4");
    }

    private static void emptyAtTheSamePlace() {
        String name = "and not both stretches are empty at the same place";
        ListWays.conflict(name + ": before all", "1 2", "8 1 2", "9 1 2");
        ListWays.conflict(name + ": amidst", "1 2", "1 8 2", "1 9 2");
        ListWays.conflict(name + ": behind all", "1 2", "1 2 8", "1 2 9");
        ListWays.conflict(name + ": of an empty list", "", "8", "9");
        ListWays.joined(name + ": at places side by side", "1 2", "8 1 2", "1 9 2", "8 1 9 2");
        ListWays.joined(name + ": one alone is empty", "1 2", "8 1 2", "9 2", "8 9 2");
    }

    private static void moreThanEight() {
        String name = "a conflict all the same if it has more than 8 ints";
        ListWays.joined(name + ": 8, from two that have 7", "1 2 3 4 5 6", "0 1 2 3 4 5 6", "1 2 3 4 5 6 7",
                "0 1 2 3 4 5 6 7");
        ListWays.conflict(name + ": 9, from 7 and 8", "1 2 3 4 5 6", "0 1 2 3 4 5 6", "1 2 3 4 5 6 7 8");
        ListWays.conflict(name + ": 9, from two that have 8", "1 2 3 4 5 6 7", "0 1 2 3 4 5 6 7", "1 2 3 4 5 6 7 8");
        ListWays.joined(name + ": 8, as one takes out what the other puts in", "1 2 3 4 5 6 7", "0 0 2 3 4 5 6 7",
                "1 2 3 4 5 6 8", "0 0 2 3 4 5 6 8");
        ListWays.joined(name + ": 8 of 8", "1 2 3 4 5 6 7 8", "0 2 3 4 5 6 7 8", "1 2 3 4 5 6 7 0",
                "0 2 3 4 5 6 7 0");
        ListWays.conflict(name + ": 15, the most of one int", "1", "0 0 0 0 0 0 0 1", "1 2 2 2 2 2 2 2");
    }

    private static void noneLeft() {
        String name = "then the list is x with both changes";
        ListWays.joined(name + ": none of 2 is left", "1 2", "2", "1", "");
        ListWays.joined(name + ": none of 8 is left", "1 2 3 4 5 6 7 8", "1 2 3 4", "5 6 7 8", "");
        ListWays.joined(name + ": one is left", "1 2 3", "2 3", "1 2", "2");
    }
}

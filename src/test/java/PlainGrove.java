import java.util.ArrayList;
import java.util.HashSet;
import java.util.List;
import java.util.NoSuchElementException;
import java.util.Set;
import java.util.TreeSet;

/**
 * What the document says, written a second time and in another way: revisions
 * are objects that know their parents, fields are objects of the Java library,
 * and numbers are looked up in the list of revisions. ModelTest compares the
 * class with it.
 */
final class PlainGrove {
    /** No record of Java: two revisions with the same fields and parents are still two. */
    private static final class Revision {
        final List<Object> fields;
        final Revision first;
        final Revision second;

        Revision(List<Object> fields, Revision first, Revision second) {
            this.fields = fields;
            this.first = first;
            this.second = second;
        }
    }

    private static final class Branch {
        Revision at;
        List<Revision> undone = new ArrayList<>();
    }

    /** That the places from .. to - 1 of a base were replaced by other ints. */
    private record Replaced(int from, int to, List<Integer> by) {
    }

    private List<Revision> revisions = new ArrayList<>();
    private final List<Branch> branches = new ArrayList<>();
    private Branch present;
    private int conflicts;

    /** What the latest merge() met, for ModelTest to see that its runs meet everything. */
    String met = "";

    PlainGrove() {
        revisions.add(new Revision(
                List.of(0, 0, 0L, 0L, Set.of(), Set.of(), List.of(), List.of()), null, null));
        for (int b = 0; b < 4; b++) {
            Branch branch = new Branch();
            branch.at = revisions.get(0);
            branches.add(branch);
        }
        present = branches.get(0);
    }

    int put(int f, int v) {
        argument(f == 0 || f == 1);
        return change(f, v);
    }

    int add(int f, int by) {
        argument(f == 2 || f == 3);
        return change(f, (Long) present.at.fields.get(f) + by);
    }

    int mark(int f, int e, boolean in) {
        argument((f == 4 || f == 5) && e >= 0 && e <= 31);
        Set<Integer> set = new TreeSet<>(set(present.at, f));
        if (in) {
            set.add(e);
        } else {
            set.remove(e);
        }
        return change(f, set);
    }

    int insert(int f, int p, int v) {
        argument(f == 6 || f == 7);
        List<Integer> list = new ArrayList<>(list(present.at, f));
        index(p >= 0 && p <= list.size());
        state(list.size() < 8);
        list.add(p, v);
        return change(f, list);
    }

    int remove(int f, int p) {
        argument(f == 6 || f == 7);
        List<Integer> list = new ArrayList<>(list(present.at, f));
        index(p >= 0 && p < list.size());
        list.remove(p);
        return change(f, list);
    }

    void point(int b) {
        Branch branch = branch(b);
        branch.at = present.at;
        if (branch != present) {
            branch.undone.clear();
        }
    }

    int turn(int b) {
        present = branch(b);
        return number(present.at);
    }

    void go(int r) {
        come(revision(r));
    }

    int undo() {
        if (present.at.first == null) {
            throw new NoSuchElementException();
        }
        present.undone.add(present.at);
        present.at = present.at.first;
        return number(present.at);
    }

    int redo() {
        if (present.undone.isEmpty()) {
            throw new NoSuchElementException();
        }
        present.at = present.undone.remove(present.undone.size() - 1);
        return number(present.at);
    }

    int merge(int b, int side) {
        conflicts = 0;
        met = "";
        Revision other = branch(b).at;
        argument(side >= 0 && side <= 2);
        if (ancestors(present.at).contains(other)) {
            met = "way 0";
            return 0;
        }
        if (ancestors(other).contains(present.at)) {
            met = "way 1";
            come(other);
            return 1;
        }
        Revision base = sharedBase(present.at, other);
        List<Object> fields = new ArrayList<>();
        for (int f = 0; f < 8; f++) {
            Object joined = joined(f, base.fields.get(f), present.at.fields.get(f), other.fields.get(f));
            if (joined == null) {
                conflicts += 1 << f;
                joined = (side == 2 ? other : present.at).fields.get(f);
            }
            fields.add(joined);
        }
        met += conflicts == 0 ? "; no conflict" : "; conflicts with side " + side;
        met += revisions.size() == 60 ? "; full" : "";
        state(conflicts == 0 || side != 0);
        state(revisions.size() < 60);
        come(made(fields, present.at, other));
        return 2;
    }

    int conflicts() {
        return conflicts;
    }

    int base(int b) {
        return number(sharedBase(present.at, branch(b).at));
    }

    long value(int r, int f, int i) {
        Revision revision = revision(r);
        argument(f >= 0 && f <= 7);
        Object field = revision.fields.get(f);
        if (field instanceof Number number) {
            return number.longValue();
        }
        if (field instanceof Set<?>) {
            long sum = 0;
            for (int e : set(revision, f)) {
                sum += (long) Math.pow(2, e);
            }
            return sum;
        }
        List<Integer> list = list(revision, f);
        if (i == -1) {
            return list.size();
        }
        index(i >= 0 && i < list.size());
        return list.get(i);
    }

    int differ(int r, int q) {
        Revision one = revision(r);
        Revision other = revision(q);
        int sum = 0;
        for (int f = 0; f < 8; f++) {
            if (!one.fields.get(f).equals(other.fields.get(f))) {
                sum += 1 << f;
            }
        }
        return sum;
    }

    int parent(int r, boolean second) {
        Revision revision = revision(r);
        return number(second ? revision.second : revision.first);
    }

    int prune() {
        Set<Revision> needed = new HashSet<>();
        for (Branch branch : branches) {
            needed.addAll(ancestors(branch.at));
            for (Revision undone : branch.undone) {
                needed.addAll(ancestors(undone));
            }
        }
        int before = revisions.size();
        List<Revision> kept = new ArrayList<>();
        for (Revision revision : revisions) {
            if (needed.contains(revision)) {
                kept.add(revision);
            }
        }
        revisions = kept;
        return before - kept.size();
    }

    int figure(int k) {
        argument(k >= 0 && k <= 7);
        if (k == 0) {
            return number(present.at);
        }
        if (k == 1) {
            return revisions.size();
        }
        if (k == 2) {
            return branches.indexOf(present);
        }
        if (k == 3) {
            return present.undone.size();
        }
        return number(branches.get(k - 4).at);
    }

    private int change(int f, Object field) {
        if (present.at.fields.get(f).equals(field)) {
            return number(present.at);
        }
        state(revisions.size() < 60);
        List<Object> fields = new ArrayList<>(present.at.fields);
        fields.set(f, field);
        come(made(fields, present.at, null));
        return number(present.at);
    }

    private Revision made(List<Object> fields, Revision first, Revision second) {
        Revision revision = new Revision(fields, first, second);
        revisions.add(revision);
        return revision;
    }

    private void come(Revision revision) {
        present.at = revision;
        present.undone.clear();
    }

    private static Set<Revision> ancestors(Revision revision) {
        Set<Revision> found = new HashSet<>();
        List<Revision> open = new ArrayList<>();
        open.add(revision);
        while (!open.isEmpty()) {
            Revision next = open.remove(open.size() - 1);
            if (next != null && found.add(next)) {
                open.add(next.first);
                open.add(next.second);
            }
        }
        return found;
    }

    private Revision sharedBase(Revision one, Revision other) {
        Set<Revision> shared = ancestors(one);
        shared.retainAll(ancestors(other));
        Revision greatest = null;
        for (Revision revision : revisions) {
            if (shared.contains(revision)) {
                greatest = revision;
            }
        }
        return greatest;
    }

    /** The field that x, y and z are brought together to, or null for a conflict. */
    private Object joined(int f, Object x, Object y, Object z) {
        if (f == 2 || f == 3) {
            return (Long) y + (Long) z - (Long) x;
        }
        if (f == 4 || f == 5) {
            return joinedSets(ints(x), ints(y), ints(z));
        }
        boolean yDiffers = !y.equals(x);
        boolean zDiffers = !z.equals(x);
        if (!yDiffers && !zDiffers) {
            return x;
        }
        if (yDiffers != zDiffers) {
            return yDiffers ? y : z;
        }
        if (y.equals(z)) {
            return y;
        }
        return f < 6 ? null : joinedLists(ints(x), ints(y), ints(z));
    }

    private static Set<Integer> joinedSets(List<Integer> x, List<Integer> y, List<Integer> z) {
        Set<Integer> joined = new TreeSet<>();
        for (int e = 0; e < 32; e++) {
            boolean both = y.contains(e) && z.contains(e);
            boolean added = (y.contains(e) || z.contains(e)) && !x.contains(e);
            if (both || added) {
                joined.add(e);
            }
        }
        return joined;
    }

    private List<Integer> joinedLists(List<Integer> x, List<Integer> y, List<Integer> z) {
        Replaced one = replaced(x, y);
        Replaced other = replaced(x, z);
        boolean oneFirst = one.to <= other.from;
        boolean otherFirst = other.to <= one.from;
        if (!oneFirst && !otherFirst) {
            met += "; lists overlap";
            return null;
        }
        if (oneFirst && otherFirst) {
            met += "; lists grow at the same place";
            return null;
        }
        // The later change is made first: the earlier one's places stay the same then.
        List<Integer> joined = new ArrayList<>(x);
        replace(joined, oneFirst ? other : one);
        replace(joined, oneFirst ? one : other);
        if (joined.size() > 8) {
            met += "; lists too long";
            return null;
        }
        met += oneFirst ? "; lists joined, y first" : "; lists joined, z first";
        met += one.to == other.from || other.to == one.from ? "; lists touch" : "";
        met += joined.size() == 8 ? "; lists joined to 8" : "";
        return joined;
    }

    private static Replaced replaced(List<Integer> base, List<Integer> version) {
        List<Integer> out = new ArrayList<>(base);
        List<Integer> in = new ArrayList<>(version);
        int from = 0;
        while (!out.isEmpty() && !in.isEmpty() && out.get(0).equals(in.get(0))) {
            out.remove(0);
            in.remove(0);
            from++;
        }
        while (!out.isEmpty() && !in.isEmpty() && out.get(out.size() - 1).equals(in.get(in.size() - 1))) {
            out.remove(out.size() - 1);
            in.remove(in.size() - 1);
        }
        return new Replaced(from, from + out.size(), in);
    }

    private static void replace(List<Integer> list, Replaced change) {
        list.subList(change.from, change.to).clear();
        list.addAll(change.from, change.by);
    }

    private static Set<Integer> set(Revision revision, int f) {
        return new TreeSet<>(ints(revision.fields.get(f)));
    }

    private static List<Integer> list(Revision revision, int f) {
        return ints(revision.fields.get(f));
    }

    private static List<Integer> ints(Object field) {
        List<Integer> ints = new ArrayList<>();
        for (Object entry : (Iterable<?>) field) {
            ints.add((Integer) entry);
        }
        return ints;
    }

    private int number(Revision revision) {
        return revisions.indexOf(revision);
    }

    private Revision revision(int r) {
        argument(r >= 0 && r < revisions.size());
        return revisions.get(r);
    }

    private Branch branch(int b) {
        argument(b >= 0 && b < 4);
        return branches.get(b);
    }

    private static void argument(boolean holds) {
        if (!holds) {
            throw new IllegalArgumentException();
        }
    }

    private static void index(boolean holds) {
        if (!holds) {
            throw new IndexOutOfBoundsException();
        }
    }

    private static void state(boolean holds) {
        if (!holds) {
            throw new IllegalStateException();
        }
    }
}

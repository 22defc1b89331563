import java.util.NoSuchElementException;

/**
 * A record of eight fields whose states are all kept in a grove of revisions:
 * four branches go their own ways, what was done is undone and done again,
 * ways are brought together by what each of them changed, and revisions that
 * nobody needs any more are pruned.
 */
public final class RevisionGrove {
    private static final int NONE = -1;
    private static final int MOST_REVISIONS = 60;
    private static final int BRANCHES = 4;

    private static final int FIELDS = 8;
    private static final int FIRST_NUMBER = 0;
    private static final int FIRST_COUNTER = 2;
    private static final int FIRST_SET = 4;
    private static final int FIRST_LIST = 6;
    private static final int ELEMENTS = 32;
    private static final int MOST_INTS = 8;
    private static final int CELLS = FIELDS + (FIELDS - FIRST_LIST) * MOST_INTS;

    private static final int UNSETTLED = 0;
    private static final int FOR_BRANCH = 2;

    private static final int WAY_NOTHING = 0;
    private static final int WAY_FORWARD = 1;
    private static final int WAY_JOINED = 2;

    private final Revisions revisions = new Revisions();
    private final Branches branches = new Branches();
    private final Fields draft = new Fields();
    private int latestConflicts;

    public RevisionGrove() {
        latestConflicts = 0;
    }

    public int put(int f, int v) throws IllegalArgumentException, IllegalStateException {
        requireKind(f, FIRST_NUMBER);
        draftPresent();
        draft.setCell(f, v);
        return comeToChanged(f);
    }

    public int add(int f, int by) throws IllegalArgumentException, IllegalStateException {
        requireKind(f, FIRST_COUNTER);
        draftPresent();
        draft.setCell(f, draft.cell(f) + by);
        return comeToChanged(f);
    }

    public int mark(int f, int e, boolean in) throws IllegalArgumentException, IllegalStateException {
        requireKind(f, FIRST_SET);
        if (e < 0 || e >= ELEMENTS) {
            throw new IllegalArgumentException("no such element");
        }
        long element = 1L << e;
        draftPresent();
        draft.setCell(f, in ? draft.cell(f) | element : draft.cell(f) & ~element);
        return comeToChanged(f);
    }

    public int insert(int f, int p, int v)
            throws IllegalArgumentException, IndexOutOfBoundsException, IllegalStateException {
        requireKind(f, FIRST_LIST);
        draftPresent();
        if (p < 0 || p > draft.length(f)) {
            throw new IndexOutOfBoundsException("no such place to insert at");
        }
        if (draft.length(f) == MOST_INTS) {
            throw new IllegalStateException("the list is full");
        }
        draft.insertInt(f, p, v);
        return comeToChanged(f);
    }

    public int remove(int f, int p)
            throws IllegalArgumentException, IndexOutOfBoundsException, IllegalStateException {
        requireKind(f, FIRST_LIST);
        draftPresent();
        if (!draft.hasPlace(f, p)) {
            throw new IndexOutOfBoundsException("no int at this place");
        }
        draft.removeInt(f, p);
        return comeToChanged(f);
    }

    public void point(int b) throws IllegalArgumentException {
        requireBranch(b);
        if (b != branches.presentBranch()) {
            branches.lead(b, branches.presentRevision());
        }
    }

    public int turn(int b) throws IllegalArgumentException {
        requireBranch(b);
        branches.makePresent(b);
        return branches.presentRevision();
    }

    public void go(int r) throws IllegalArgumentException {
        requireRevision(r);
        branches.come(r);
    }

    public int undo() throws NoSuchElementException {
        int before = revisions.firstParent(branches.presentRevision());
        if (before == NONE) {
            throw new NoSuchElementException("nothing to undo");
        }
        branches.stepBack(before);
        return before;
    }

    public int redo() throws NoSuchElementException {
        if (branches.undoneCount() == 0) {
            throw new NoSuchElementException("nothing to redo");
        }
        branches.stepForward();
        return branches.presentRevision();
    }

    public int merge(int b, int side) throws IllegalArgumentException, IllegalStateException {
        latestConflicts = 0;
        requireBranch(b);
        if (side < UNSETTLED || side > FOR_BRANCH) {
            throw new IllegalArgumentException("no such side");
        }
        int mine = branches.presentRevision();
        int theirs = branches.revisionOf(b);
        if (revisions.isAncestor(theirs, mine)) {
            return WAY_NOTHING;
        }
        if (revisions.isAncestor(mine, theirs)) {
            branches.come(theirs);
            return WAY_FORWARD;
        }
        latestConflicts = draftJoined(mine, theirs, side);
        if (latestConflicts != 0 && side == UNSETTLED) {
            throw new IllegalStateException("a conflict is left");
        }
        comeToDraft(theirs);
        return WAY_JOINED;
    }

    public int conflicts() {
        return latestConflicts;
    }

    public int base(int b) throws IllegalArgumentException {
        requireBranch(b);
        return revisions.latestShared(branches.presentRevision(), branches.revisionOf(b));
    }

    public long value(int r, int f, int i) throws IllegalArgumentException, IndexOutOfBoundsException {
        requireRevision(r);
        if (f < 0 || f >= FIELDS) {
            throw new IllegalArgumentException("no such field");
        }
        Fields fields = revisions.fields(r);
        if (f < FIRST_LIST) {
            return fields.cell(f);
        }
        if (i == -1) {
            return fields.length(f);
        }
        if (!fields.hasPlace(f, i)) {
            throw new IndexOutOfBoundsException("no int at this place");
        }
        return fields.intAt(f, i);
    }

    public int differ(int r, int q) throws IllegalArgumentException {
        requireRevision(r);
        requireRevision(q);
        Fields one = revisions.fields(r);
        Fields other = revisions.fields(q);
        int sum = 0;
        for (int f = 0; f < FIELDS; f++) {
            if (!one.isSame(other, f)) {
                sum |= 1 << f;
            }
        }
        return sum;
    }

    public int parent(int r, boolean second) throws IllegalArgumentException {
        requireRevision(r);
        return second ? revisions.secondParent(r) : revisions.firstParent(r);
    }

    public int prune() {
        int before = revisions.count();
        revisions.keepOnly(branches.needed(revisions));
        branches.renumber(revisions);
        return before - revisions.count();
    }

    public int figure(int k) throws IllegalArgumentException {
        switch (k) {
            case 0:
                return branches.presentRevision();
            case 1:
                return revisions.count();
            case 2:
                return branches.presentBranch();
            case 3:
                return branches.undoneCount();
            case 4:
            case 5:
            case 6:
            case 7:
                return branches.revisionOf(k - 4);
            default:
                throw new IllegalArgumentException("no such figure");
        }
    }

    /** The two fields of a kind stand side by side, so its first one tells the kind. */
    private static void requireKind(int f, int first) {
        if (f != first && f != first + 1) {
            throw new IllegalArgumentException("no field of this kind");
        }
    }

    private static void requireBranch(int b) {
        if (b < 0 || b >= BRANCHES) {
            throw new IllegalArgumentException("no such branch");
        }
    }

    private void requireRevision(int r) {
        if (!revisions.has(r)) {
            throw new IllegalArgumentException("no such revision");
        }
    }

    private void draftPresent() {
        draft.takeAll(revisions.fields(branches.presentRevision()));
    }

    /** Drafts the record of two ways brought together: the sum of 2^f of its conflicts. */
    private int draftJoined(int mine, int theirs, int side) {
        Fields base = revisions.fields(revisions.latestShared(mine, theirs));
        Fields y = revisions.fields(mine);
        Fields z = revisions.fields(theirs);
        return Joining.join(draft, base, y, z, side == FOR_BRANCH ? z : y);
    }

    private int comeToChanged(int f) {
        int present = branches.presentRevision();
        if (draft.isSame(revisions.fields(present), f)) {
            return present;
        }
        comeToDraft(NONE);
        return branches.presentRevision();
    }

    private void comeToDraft(int secondParent) {
        if (revisions.count() == MOST_REVISIONS) {
            throw new IllegalStateException("no room for another revision");
        }
        branches.come(revisions.make(draft, branches.presentRevision(), secondParent));
    }

    /**
     * The eight fields of a record. Cell f is number f, counter f, the sum of
     * 2^e of set f's elements, or the length of list f; the places of the two
     * lists follow. Places behind a list's end are kept 0, so that equal lists
     * have equal cells.
     */
    private static final class Fields {
        private final long[] cells = new long[CELLS];

        long cell(int f) {
            return cells[f];
        }

        void setCell(int f, long content) {
            cells[f] = content;
        }

        int length(int f) {
            return (int) cells[f];
        }

        boolean hasPlace(int f, int p) {
            return p >= 0 && p < length(f);
        }

        long intAt(int f, int p) {
            return cells[firstPlace(f) + p];
        }

        void insertInt(int f, int p, int v) {
            int from = firstPlace(f) + p;
            System.arraycopy(cells, from, cells, from + 1, length(f) - p);
            cells[from] = v;
            cells[f]++;
        }

        void removeInt(int f, int p) {
            int from = firstPlace(f) + p;
            cells[f]--;
            System.arraycopy(cells, from + 1, cells, from, length(f) - p);
            cells[firstPlace(f) + length(f)] = 0;
        }

        void clearList(int f) {
            cells[f] = 0;
            for (int p = 0; p < MOST_INTS; p++) {
                cells[firstPlace(f) + p] = 0;
            }
        }

        /** Puts the ints at the places begin .. end - 1 of another record's list f behind this one's. */
        void append(int f, Fields from, int begin, int end) {
            int free = firstPlace(f) + length(f);
            System.arraycopy(from.cells, firstPlace(f) + begin, cells, free, end - begin);
            cells[f] += end - begin;
        }

        boolean isSame(Fields other, int f) {
            if (cells[f] != other.cells[f]) {
                return false;
            }
            return f < FIRST_LIST || hasSamePlaces(other, firstPlace(f));
        }

        int sameAtBeginning(Fields other, int f) {
            int first = firstPlace(f);
            int most = Math.min(length(f), other.length(f));
            int n = 0;
            while (n < most && cells[first + n] == other.cells[first + n]) {
                n++;
            }
            return n;
        }

        /** The first head ints of both have been taken off before, and do not count again. */
        int sameAtEnd(Fields other, int f, int head) {
            int last = firstPlace(f) + length(f) - 1;
            int otherLast = firstPlace(f) + other.length(f) - 1;
            int most = Math.min(length(f), other.length(f)) - head;
            int n = 0;
            while (n < most && cells[last - n] == other.cells[otherLast - n]) {
                n++;
            }
            return n;
        }

        void take(Fields from, int f) {
            cells[f] = from.cells[f];
            if (f >= FIRST_LIST) {
                System.arraycopy(from.cells, firstPlace(f), cells, firstPlace(f), MOST_INTS);
            }
        }

        void takeAll(Fields from) {
            System.arraycopy(from.cells, 0, cells, 0, CELLS);
        }

        private boolean hasSamePlaces(Fields other, int first) {
            for (int c = first; c < first + MOST_INTS; c++) {
                if (cells[c] != other.cells[c]) {
                    return false;
                }
            }
            return true;
        }

        private static int firstPlace(int f) {
            return FIELDS + (f - FIRST_LIST) * MOST_INTS;
        }
    }

    /** All revisions there are, with numbers 0 .. count - 1; a parent's number is less than its child's. */
    private static final class Revisions {
        private final Fields[] records = new Fields[MOST_REVISIONS];
        private final int[] firstParents = new int[MOST_REVISIONS];
        private final int[] secondParents = new int[MOST_REVISIONS];
        /** Bit r of row q is set if r is an ancestor of q: 60 revisions fit into a long. */
        private final long[] ancestors = new long[MOST_REVISIONS];
        private final int[] newNumbers = new int[MOST_REVISIONS];
        private int count;

        Revisions() {
            for (int r = 0; r < MOST_REVISIONS; r++) {
                records[r] = new Fields();
            }
            firstParents[0] = NONE;
            secondParents[0] = NONE;
            ancestors[0] = 1L;
            count = 1;
        }

        int count() {
            return count;
        }

        boolean has(int r) {
            return r >= 0 && r < count;
        }

        Fields fields(int r) {
            return records[r];
        }

        int firstParent(int r) {
            return firstParents[r];
        }

        int secondParent(int r) {
            return secondParents[r];
        }

        long ancestorsOf(int r) {
            return ancestors[r];
        }

        boolean isAncestor(int r, int q) {
            return holds(ancestors[q], r);
        }

        /** The ancestor of both with the greatest number; revision 0 is one of all. */
        int latestShared(int a, int b) {
            long shared = ancestors[a] & ancestors[b];
            for (int r = Math.min(a, b); r > 0; r--) {
                if (holds(shared, r)) {
                    return r;
                }
            }
            return 0;
        }

        int make(Fields record, int first, int second) {
            int r = count;
            count++;
            records[r].takeAll(record);
            link(r, first, second);
            return r;
        }

        /** Whoever needs a revision needs its ancestors, so the parents of one that stays have numbers already. */
        void keepOnly(long needed) {
            int kept = 0;
            for (int r = 0; r < count; r++) {
                if (holds(needed, r)) {
                    newNumbers[r] = kept;
                    records[kept].takeAll(records[r]);
                    link(kept, newNumber(firstParents[r]), newNumber(secondParents[r]));
                    kept++;
                }
            }
            count = kept;
        }

        /** The number since the latest keepOnly() of one that had number r before it. */
        int newNumber(int r) {
            return r == NONE ? NONE : newNumbers[r];
        }

        private void link(int r, int first, int second) {
            firstParents[r] = first;
            secondParents[r] = second;
            ancestors[r] = 1L << r | ancestorsOrNone(first) | ancestorsOrNone(second);
        }

        private long ancestorsOrNone(int r) {
            return r == NONE ? 0L : ancestors[r];
        }

        private static boolean holds(long set, int r) {
            return (set >>> r & 1L) != 0;
        }
    }

    /**
     * The branches, and which of them is the present one. Of a list of undone
     * revisions each one is the first parent of the one before it, so no list
     * is longer than there are revisions.
     */
    private static final class Branches {
        private final int[] pointed = new int[BRANCHES];
        private final int[][] undone = new int[BRANCHES][MOST_REVISIONS];
        private final int[] undoneCounts = new int[BRANCHES];
        private int present;

        int presentBranch() {
            return present;
        }

        int presentRevision() {
            return pointed[present];
        }

        int revisionOf(int b) {
            return pointed[b];
        }

        int undoneCount() {
            return undoneCounts[present];
        }

        void makePresent(int b) {
            present = b;
        }

        void lead(int b, int r) {
            pointed[b] = r;
            undoneCounts[b] = 0;
        }

        void come(int r) {
            lead(present, r);
        }

        void stepBack(int before) {
            undone[present][undoneCounts[present]] = pointed[present];
            undoneCounts[present]++;
            pointed[present] = before;
        }

        void stepForward() {
            undoneCounts[present]--;
            pointed[present] = undone[present][undoneCounts[present]];
        }

        /** Bit r is set if a branch points to r or has it undone, or r is an ancestor of such a one. */
        long needed(Revisions revisions) {
            long needed = 0;
            for (int b = 0; b < BRANCHES; b++) {
                needed |= revisions.ancestorsOf(pointed[b]);
                for (int u = 0; u < undoneCounts[b]; u++) {
                    needed |= revisions.ancestorsOf(undone[b][u]);
                }
            }
            return needed;
        }

        void renumber(Revisions revisions) {
            for (int b = 0; b < BRANCHES; b++) {
                pointed[b] = revisions.newNumber(pointed[b]);
                for (int u = 0; u < undoneCounts[b]; u++) {
                    undone[b][u] = revisions.newNumber(undone[b][u]);
                }
            }
        }
    }

    /** Brings records y and z together by what each of them changed in their base x. */
    private static final class Joining {
        /** Conflicts are settled for the preferred one: the sum of 2^f of them. */
        static int join(Fields joined, Fields x, Fields y, Fields z, Fields preferred) {
            int sum = 0;
            for (int f = 0; f < FIELDS; f++) {
                if (!joinField(joined, x, y, z, f)) {
                    joined.take(preferred, f);
                    sum |= 1 << f;
                }
            }
            return sum;
        }

        /** Answers false, here and below, for a conflict. */
        private static boolean joinField(Fields joined, Fields x, Fields y, Fields z, int f) {
            if (f >= FIRST_COUNTER && f < FIRST_SET) {
                joined.setCell(f, y.cell(f) + z.cell(f) - x.cell(f));
                return true;
            }
            if (f >= FIRST_SET && f < FIRST_LIST) {
                joined.setCell(f, joinedSet(x.cell(f), y.cell(f), z.cell(f)));
                return true;
            }
            if (y.isSame(x, f)) {
                joined.take(z, f);
                return true;
            }
            if (z.isSame(x, f) || z.isSame(y, f)) {
                joined.take(y, f);
                return true;
            }
            return f >= FIRST_LIST && joinList(joined, x, new Change(x, y, f), new Change(x, z, f), f);
        }

        private static long joinedSet(long x, long y, long z) {
            return y & z | (y | z) & ~x;
        }

        private static boolean joinList(Fields joined, Fields x, Change mine, Change theirs, int f) {
            boolean mineFirst = mine.end <= theirs.begin;
            boolean theirsFirst = theirs.end <= mine.begin;
            // Both hold only if both stretches are empty at the same place, where neither goes first.
            if (mineFirst == theirsFirst || x.length(f) + mine.growth() + theirs.growth() > MOST_INTS) {
                return false;
            }
            Change first = mineFirst ? mine : theirs;
            Change second = mineFirst ? theirs : mine;
            joined.clearList(f);
            joined.append(f, x, 0, first.begin);
            joined.append(f, first.version, first.begin, first.versionEnd);
            joined.append(f, x, first.end, second.begin);
            joined.append(f, second.version, second.begin, second.versionEnd);
            joined.append(f, x, second.end, x.length(f));
            return true;
        }
    }

    /** That list f of a version has its places begin .. versionEnd - 1 where the base has begin .. end - 1. */
    private static final class Change {
        private final Fields version;
        private final int begin;
        private final int end;
        private final int versionEnd;

        Change(Fields base, Fields version, int f) {
            int head = base.sameAtBeginning(version, f);
            int tail = base.sameAtEnd(version, f, head);
            this.version = version;
            this.begin = head;
            this.end = base.length(f) - tail;
            this.versionEnd = version.length(f) - tail;
        }

        int growth() {
            return versionEnd - end;
        }
    }
}

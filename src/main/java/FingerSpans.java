/**
 * Versions of a sequence of spans, each kept as a tree with fingers at both ends: a new version
 * shares what it can with the versions it comes from, and no version ever changes.
 *
 * <p>The words in capitals (FRONT, CUT, NODE ..) are those of the document's 'Terms'.
 */
public final class FingerSpans {
    public static final int BAD = -1;
    public static final int FULL = -2;

    private static final int MOST_VERSIONS = 120;
    private static final int MOST_IN_DIGIT = 4;

    // This limit also guards the depth of all that calls itself below, once for each DEEP tree on the
    // way down and once for each node inside a node: a fifth DEEP tree would need 2 + 4 + 8 + 16 + 32
    // entries, and the calls that could make more than 40 refuse it before they use a rule.
    private static final int MOST_ENTRIES = 40;

    // A call makes only nodes of the versions it makes, each of two items or more, so fewer than
    // those versions have entries; the one call that makes two versions makes no node.
    private static final int MOST_NODES = (MOST_VERSIONS - 1) * (MOST_ENTRIES - 1);

    private static final int COUNT = 0;
    private static final int GREATEST_LOW = 1;
    private static final int GREATEST_HIGH = 2;
    private static final int WIDTHS = 3;

    // No LOW and no HIGH is less, so that it gives way to the first entry that is looked at.
    private static final long LEAST = -2147483648L;

    private final Rules rules = new Rules();
    private final Marks marks = new Marks();
    private final Tree[] versions = new Tree[MOST_VERSIONS];
    private int versionCount;

    public FingerSpans() {
        versions[0] = rules.empty;
        versionCount = 1;
    }

    // ---- calls that make versions

    public int pushFront(int v, int low, int high) {
        if (!isVersion(v) || low > high) {
            return BAD;
        }
        if (!hasRoomFor(1) || versions[v].entries >= MOST_ENTRIES) {
            return FULL;
        }
        return keep(rules.front(new Item(low, high), versions[v]));
    }

    public int pushBack(int v, int low, int high) {
        if (!isVersion(v) || low > high) {
            return BAD;
        }
        if (!hasRoomFor(1) || versions[v].entries >= MOST_ENTRIES) {
            return FULL;
        }
        return keep(rules.back(versions[v], new Item(low, high)));
    }

    public int popFront(int v) {
        if (!isVersion(v) || versions[v].isEmpty()) {
            return BAD;
        }
        if (!hasRoomFor(1)) {
            return FULL;
        }
        return keep(rules.rest(versions[v]));
    }

    public int popBack(int v) {
        if (!isVersion(v) || versions[v].isEmpty()) {
            return BAD;
        }
        if (!hasRoomFor(1)) {
            return FULL;
        }
        return keep(rules.lead(versions[v]));
    }

    public int concat(int v, int w) {
        if (!isVersion(v) || !isVersion(w)) {
            return BAD;
        }
        if (!hasRoomFor(1) || versions[v].entries + versions[w].entries > MOST_ENTRIES) {
            return FULL;
        }
        return keep(rules.join(versions[v], rules.none, versions[w]));
    }

    public int split(int v, int p) {
        if (!isVersion(v) || p < 0 || p > versions[v].entries) {
            return BAD;
        }
        if (!hasRoomFor(2)) {
            return FULL;
        }
        Halves halves = rules.halves(versions[v], p);
        int first = keep(halves.before);
        keep(halves.after);
        return first;
    }

    public int replace(int v, int p, int low, int high) {
        if (!isPlace(v, p) || low > high) {
            return BAD;
        }
        if (!hasRoomFor(1)) {
            return FULL;
        }
        return keep(rules.withEntry(versions[v], p, new Item(low, high)));
    }

    public int insert(int v, int low, int high) {
        if (!isVersion(v) || low > high) {
            return BAD;
        }
        if (!hasRoomFor(1) || versions[v].entries >= MOST_ENTRIES) {
            return FULL;
        }
        int p = firstPlace(versions[v], GREATEST_LOW, low);
        Halves halves = rules.halves(versions[v], p);
        Tree after = rules.front(new Item(low, high), halves.after);
        return keep(rules.join(halves.before, rules.none, after));
    }

    public int removeTop(int v) {
        if (!isVersion(v) || versions[v].isEmpty()) {
            return BAD;
        }
        if (!hasRoomFor(1)) {
            return FULL;
        }
        long top = total(versions[v], GREATEST_HIGH);
        Cut cut = rules.cut(versions[v], firstPlace(versions[v], GREATEST_HIGH, top));
        return keep(rules.join(cut.before, rules.none, cut.after));
    }

    // ---- calls that look at entries

    public int length(int v) {
        return isVersion(v) ? versions[v].entries : BAD;
    }

    public int low(int v, int p) {
        return isPlace(v, p) ? versions[v].entryAt(p).low : 0;
    }

    public int high(int v, int p) {
        return isPlace(v, p) ? versions[v].entryAt(p).high : 0;
    }

    public long measure(int v, int kind) {
        if (!isVersion(v) || versions[v].isEmpty() || !isKind(kind)) {
            return 0;
        }
        return total(versions[v], kind);
    }

    public int search(int v, int kind, long limit) {
        if (!isVersion(v) || !isKind(kind)) {
            return BAD;
        }
        return firstPlace(versions[v], kind, limit);
    }

    public int meeting(int v, int from, int since, int to) {
        if (!isVersion(v)) {
            return BAD;
        }
        Tree tree = versions[v];
        for (int p = Math.max(from, 0); p < tree.entries; p++) {
            Item entry = tree.entryAt(p);
            // Not swapped when since > to: then only an entry that holds both of them will do.
            if (entry.low <= to && entry.high >= since) {
                return p;
            }
        }
        return BAD;
    }

    // ---- calls that look at the shape of trees

    public int spine(int v) {
        if (!isVersion(v)) {
            return BAD;
        }
        int twiceDeep = 0;
        Tree tree = versions[v];
        while (tree.isDeep()) {
            twiceDeep += 2;
            tree = tree.middle;
        }
        return tree.isEmpty() ? twiceDeep : twiceDeep + 1;
    }

    public int digit(int v, int level, boolean right) {
        if (!isVersion(v)) {
            return BAD;
        }
        Tree tree = versions[v];
        for (int k = 0; k < level && tree != null; k++) {
            tree = tree.middle;
        }
        if (level < 0 || tree == null || !tree.isDeep()) {
            return 0;
        }
        return right ? tree.right.length : tree.left.length;
    }

    public int rank(int v, int p) {
        return isPlace(v, p) ? versions[v].levelOf(p) : BAD;
    }

    public int shared(int v, int w) {
        if (!isVersion(v) || !isVersion(w)) {
            return BAD;
        }
        return marks.common(versions[v], versions[w]);
    }

    public int made() {
        return rules.nodesMade;
    }

    // ---- what the calls above have in common

    private boolean isVersion(int v) {
        return v >= 0 && v < versionCount;
    }

    private boolean isPlace(int v, int p) {
        return isVersion(v) && p >= 0 && p < versions[v].entries;
    }

    private static boolean isKind(int kind) {
        return kind >= COUNT && kind <= WIDTHS;
    }

    private boolean hasRoomFor(int more) {
        return versionCount + more <= MOST_VERSIONS;
    }

    private int keep(Tree tree) {
        versions[versionCount] = tree;
        versionCount++;
        return versionCount - 1;
    }

    private static long total(Tree tree, int kind) {
        long sum = totalOfNone(kind);
        for (int p = 0; p < tree.entries; p++) {
            sum = totalWith(sum, tree.entryAt(p), kind);
        }
        return sum;
    }

    private static int firstPlace(Tree tree, int kind, long limit) {
        long sum = totalOfNone(kind);
        for (int p = 0; p < tree.entries; p++) {
            sum = totalWith(sum, tree.entryAt(p), kind);
            if (isBeyond(sum, kind, limit)) {
                return p;
            }
        }
        return tree.entries;
    }

    private static boolean isGreatest(int kind) {
        return kind == GREATEST_LOW || kind == GREATEST_HIGH;
    }

    private static long totalOfNone(int kind) {
        return isGreatest(kind) ? LEAST : 0L;
    }

    private static long totalWith(long sum, Item entry, int kind) {
        switch (kind) {
            case GREATEST_LOW:
                return Math.max(sum, (long) entry.low);
            case GREATEST_HIGH:
                return Math.max(sum, (long) entry.high);
            case WIDTHS:
                return sum + ((long) entry.high - (long) entry.low + 1L);
            default:
                return sum + 1L;
        }
    }

    private static boolean isBeyond(long sum, int kind, long limit) {
        return isGreatest(kind) ? sum >= limit : sum > limit;
    }

    /** An item: an entry, which has no parts, or a node, whose parts are items of one rank less. */
    private static final class Item {
        // Nodes are numbered from 1 in the order in which they are made; every entry has 0.
        private final int number;
        private final int low;
        private final int high;
        private final Item[] parts;
        private final int entries;

        private Item(int low, int high) {
            this.number = 0;
            this.low = low;
            this.high = high;
            this.parts = new Item[0];
            this.entries = 1;
        }

        private Item(int number, Item[] parts) {
            this.number = number;
            this.low = 0;
            this.high = 0;
            this.parts = parts;
            this.entries = Rows.entriesIn(parts);
        }

        private boolean isNode() {
            return parts.length > 0;
        }
    }

    /** Rows of items. No row is changed once it is part of a node or a tree. */
    private static final class Rows {
        private static int entriesIn(Item[] row) {
            int sum = 0;
            for (Item item : row) {
                sum += item.entries;
            }
            return sum;
        }

        private static int entriesBefore(Item[] row, int index) {
            int sum = 0;
            for (int i = 0; i < index; i++) {
                sum += row[i].entries;
            }
            return sum;
        }

        /** The index of the item that holds the entry number place of the row. */
        private static int indexOf(Item[] row, int place) {
            int index = 0;
            int end = row[0].entries;
            while (place >= end && index < row.length - 1) {
                index++;
                end += row[index].entries;
            }
            return index;
        }

        private static Item entryAt(Item[] row, int place) {
            int index = indexOf(row, place);
            Item item = row[index];
            return item.isNode() ? entryAt(item.parts, place - entriesBefore(row, index)) : item;
        }

        private static Item[] slice(Item[] row, int from, int end) {
            Item[] slice = new Item[end - from];
            for (int i = 0; i < slice.length; i++) {
                slice[i] = row[from + i];
            }
            return slice;
        }

        private static Item[] before(Item[] row, int index) {
            return slice(row, 0, index);
        }

        private static Item[] after(Item[] row, int index) {
            return slice(row, index + 1, row.length);
        }

        private static Item[] joined(Item[] first, Item[] second) {
            Item[] all = new Item[first.length + second.length];
            for (int i = 0; i < first.length; i++) {
                all[i] = first[i];
            }
            for (int i = 0; i < second.length; i++) {
                all[first.length + i] = second[i];
            }
            return all;
        }
    }

    /**
     * A tree of any rank. Only a DEEP tree has a middle; a SINGLE tree has its item in left, so that
     * left, middle, right hold the items of every kind of tree in order.
     */
    private static final class Tree {
        private final Item[] left;
        private final Tree middle;
        private final Item[] right;
        private final int rightStart;
        private final int entries;

        private Tree(Item[] left, Tree middle, Item[] right) {
            this.left = left;
            this.middle = middle;
            this.right = right;
            this.rightStart = Rows.entriesIn(left) + (middle == null ? 0 : middle.entries);
            this.entries = rightStart + Rows.entriesIn(right);
        }

        private boolean isEmpty() {
            return left.length == 0;
        }

        private boolean isDeep() {
            return middle != null;
        }

        private int middleStart() {
            return isDeep() ? rightStart - middle.entries : rightStart;
        }

        private boolean holdsInMiddle(int place) {
            return place >= middleStart() && place < rightStart;
        }

        private Item first() {
            return left[0];
        }

        private Item last() {
            return isDeep() ? right[right.length - 1] : left[0];
        }

        private Item entryAt(int place) {
            if (place >= rightStart) {
                return Rows.entryAt(right, place - rightStart);
            }
            if (holdsInMiddle(place)) {
                return middle.entryAt(place - middleStart());
            }
            return Rows.entryAt(left, place);
        }

        private int levelOf(int place) {
            return holdsInMiddle(place) ? 1 + middle.levelOf(place - middleStart()) : 0;
        }
    }

    /** What HALVES gives. */
    private static final class Halves {
        private final Tree before;
        private final Tree after;

        private Halves(Tree before, Tree after) {
            this.before = before;
            this.after = after;
        }
    }

    /** What CUT gives. */
    private static final class Cut {
        private final Tree before;
        private final Item item;
        private final Tree after;

        private Cut(Tree before, Item item, Tree after) {
            this.before = before;
            this.item = item;
            this.after = after;
        }
    }

    /** The rules of the document, and the number of nodes that they have made. */
    private static final class Rules {
        private final Item[] none = new Item[0];
        private final Tree empty = new Tree(none, null, none);
        private int nodesMade = 0;

        private Item node(Item[] parts) {
            nodesMade++;
            return new Item(nodesMade, parts);
        }

        private static Item[] rowOf(Item item) {
            return new Item[] {item};
        }

        private Tree single(Item item) {
            return new Tree(rowOf(item), null, none);
        }

        private Tree front(Item x, Tree t) {
            if (t.isEmpty()) {
                return single(x);
            }
            if (!t.isDeep()) {
                return new Tree(rowOf(x), empty, t.left);
            }
            if (t.left.length < MOST_IN_DIGIT) {
                return new Tree(Rows.joined(rowOf(x), t.left), t.middle, t.right);
            }
            Tree middle = front(node(Rows.after(t.left, 0)), t.middle);
            return new Tree(new Item[] {x, t.left[0]}, middle, t.right);
        }

        private Tree back(Tree t, Item x) {
            if (t.isEmpty()) {
                return single(x);
            }
            if (!t.isDeep()) {
                return new Tree(t.left, empty, rowOf(x));
            }
            if (t.right.length < MOST_IN_DIGIT) {
                return new Tree(t.left, t.middle, Rows.joined(t.right, rowOf(x)));
            }
            Tree middle = back(t.middle, node(Rows.before(t.right, MOST_IN_DIGIT - 1)));
            return new Tree(t.left, middle, new Item[] {t.last(), x});
        }

        private Tree line(Item[] row) {
            if (row.length == 0) {
                return empty;
            }
            if (row.length == 1) {
                return new Tree(row, null, none);
            }
            int half = (row.length + 1) / 2;
            return new Tree(Rows.before(row, half), empty, Rows.slice(row, half, row.length));
        }

        private Tree open(Item[] left, Tree middle, Item[] right) {
            if (left.length > 0 && right.length > 0) {
                return new Tree(left, middle, right);
            }
            if (middle.isEmpty()) {
                return line(left.length == 0 ? right : left);
            }
            if (left.length == 0) {
                return new Tree(middle.first().parts, rest(middle), right);
            }
            return new Tree(left, lead(middle), middle.last().parts);
        }

        private Tree rest(Tree t) {
            if (!t.isDeep()) {
                return empty;
            }
            return open(Rows.after(t.left, 0), t.middle, t.right);
        }

        private Tree lead(Tree t) {
            if (!t.isDeep()) {
                return empty;
            }
            return open(t.left, t.middle, Rows.before(t.right, t.right.length - 1));
        }

        private Tree join(Tree t, Item[] row, Tree u) {
            if (t.isEmpty()) {
                return allFront(row, u);
            }
            if (u.isEmpty()) {
                return allBack(t, row);
            }
            if (!t.isDeep()) {
                return front(t.first(), allFront(row, u));
            }
            if (!u.isDeep()) {
                return back(allBack(t, row), u.first());
            }
            Item[] between = groups(Rows.joined(Rows.joined(t.right, row), u.left));
            return new Tree(t.left, join(t.middle, between, u.middle), u.right);
        }

        private Tree allFront(Item[] row, Tree u) {
            Tree tree = u;
            for (int i = row.length - 1; i >= 0; i--) {
                tree = front(row[i], tree);
            }
            return tree;
        }

        private Tree allBack(Tree t, Item[] row) {
            Tree tree = t;
            for (int i = 0; i < row.length; i++) {
                tree = back(tree, row[i]);
            }
            return tree;
        }

        private Item[] groups(Item[] items) {
            Item[] nodes = new Item[(items.length + 2) / 3];
            int from = 0;
            for (int i = 0; i < nodes.length; i++) {
                int left = items.length - from;
                int taken = left == 2 || left == 4 ? 2 : 3;
                nodes[i] = node(Rows.slice(items, from, from + taken));
                from += taken;
            }
            return nodes;
        }

        private Cut cut(Tree t, int place) {
            if (!t.isDeep()) {
                return new Cut(empty, t.first(), empty);
            }
            if (place >= t.rightStart) {
                int i = Rows.indexOf(t.right, place - t.rightStart);
                Tree before = open(t.left, t.middle, Rows.before(t.right, i));
                return new Cut(before, t.right[i], line(Rows.after(t.right, i)));
            }
            if (!t.holdsInMiddle(place)) {
                int i = Rows.indexOf(t.left, place);
                Tree after = open(Rows.after(t.left, i), t.middle, t.right);
                return new Cut(line(Rows.before(t.left, i)), t.left[i], after);
            }
            int inMiddle = place - t.middleStart();
            Cut inner = cut(t.middle, inMiddle);
            Item[] parts = inner.item.parts;
            int i = Rows.indexOf(parts, inMiddle - inner.before.entries);
            Tree before = open(t.left, inner.before, Rows.before(parts, i));
            Tree after = open(Rows.after(parts, i), inner.after, t.right);
            return new Cut(before, parts[i], after);
        }

        private Halves halves(Tree t, int place) {
            if (place == t.entries) {
                return new Halves(t, empty);
            }
            Cut cut = cut(t, place);
            return new Halves(cut.before, front(cut.item, cut.after));
        }

        private Tree withEntry(Tree t, int place, Item entry) {
            if (place >= t.rightStart) {
                Item[] right = rowWithEntry(t.right, place - t.rightStart, entry);
                return new Tree(t.left, t.middle, right);
            }
            if (t.holdsInMiddle(place)) {
                Tree middle = withEntry(t.middle, place - t.middleStart(), entry);
                return new Tree(t.left, middle, t.right);
            }
            return new Tree(rowWithEntry(t.left, place, entry), t.middle, t.right);
        }

        private Item[] rowWithEntry(Item[] row, int place, Item entry) {
            int i = Rows.indexOf(row, place);
            Item[] copy = row.clone();
            copy[i] = entry;
            if (row[i].isNode()) {
                int inside = place - Rows.entriesBefore(row, i);
                copy[i] = node(rowWithEntry(row[i].parts, inside, entry));
            }
            return copy;
        }
    }

    /** Finds the nodes that two trees have in common, without a new row for each question. */
    private static final class Marks {
        // By node number. Each question uses two marks that are greater than all before, so that
        // nothing needs to be wiped.
        private final int[] markOf = new int[MOST_NODES + 1];
        private int latest = 0;

        private int common(Tree t, Tree u) {
            int inFirst = latest + 1;
            int inBoth = latest + 2;
            latest = inBoth;
            for (Tree at = t; at != null; at = at.middle) {
                markAll(at.left, inFirst);
                markAll(at.right, inFirst);
            }
            int count = 0;
            for (Tree at = u; at != null; at = at.middle) {
                count += countMarked(at.left, inFirst, inBoth);
                count += countMarked(at.right, inFirst, inBoth);
            }
            return count;
        }

        private void markAll(Item[] row, int mark) {
            for (Item item : row) {
                if (item.isNode()) {
                    markOf[item.number] = mark;
                    markAll(item.parts, mark);
                }
            }
        }

        /** A node that was counted gets the mark next, so that it isn't counted again. */
        private int countMarked(Item[] row, int mark, int next) {
            int count = 0;
            for (Item item : row) {
                if (item.isNode()) {
                    if (markOf[item.number] == mark) {
                        markOf[item.number] = next;
                        count++;
                    }
                    count += countMarked(item.parts, mark, next);
                }
            }
            return count;
        }
    }
}

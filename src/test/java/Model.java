import java.util.ArrayList;
import java.util.Collections;
import java.util.IdentityHashMap;
import java.util.List;
import java.util.Set;

/**
 * The document's rules once more, word by word over the Java library, to compare FingerSpans with.
 * Every question is answered from a listing of the whole tree, so that no shortcut is in common.
 */
final class Model {
    private record Span(int low, int high) { }

    /** Not a record: two nodes of the same items are two nodes. */
    private static final class Node {
        final List<Object> items;

        Node(List<Object> items) {
            this.items = items;
        }
    }

    private interface Tree { }

    private record Empty() implements Tree { }

    private record Single(Object x) implements Tree { }

    private record Deep(List<Object> l, Tree m, List<Object> r) implements Tree { }

    private record Cut(Tree before, Object item, Tree after) { }

    private final List<Tree> versions = new ArrayList<>();
    private int made = 0;

    Model() {
        versions.add(new Empty());
    }

    // ---- rows and listings

    private static List<Object> row(Object... items) {
        return List.of(items);
    }

    private static List<Object> plus(List<Object> a, List<Object> b) {
        List<Object> all = new ArrayList<>(a);
        all.addAll(b);
        return all;
    }

    private static List<Object> from(List<Object> row, int i) {
        return row.subList(i, row.size());
    }

    private static List<Span> spansOf(Object item) {
        List<Span> spans = new ArrayList<>();
        if (item instanceof Span s) {
            spans.add(s);
        } else {
            for (Object part : ((Node) item).items) {
                spans.addAll(spansOf(part));
            }
        }
        return spans;
    }

    private static List<Object> itemsOf(Tree t) {
        List<Object> items = new ArrayList<>();
        if (t instanceof Single s) {
            items.add(s.x());
        } else if (t instanceof Deep d) {
            items.addAll(d.l());
            items.addAll(itemsOf(d.m()));
            items.addAll(d.r());
        }
        return items;
    }

    private static List<Span> entries(Tree t) {
        List<Span> spans = new ArrayList<>();
        for (Object item : itemsOf(t)) {
            spans.addAll(spansOf(item));
        }
        return spans;
    }

    private static int size(List<Object> row) {
        int n = 0;
        for (Object item : row) {
            n += spansOf(item).size();
        }
        return n;
    }

    /** The index of the item that holds entry p of the row. */
    private static int holder(List<Object> row, int p) {
        int i = 0;
        while (size(row.subList(0, i + 1)) <= p) {
            i++;
        }
        return i;
    }

    private Node node(List<Object> items) {
        made++;
        return new Node(List.copyOf(items));
    }

    // ---- the rules

    private Tree front(Object x, Tree t) {
        if (t instanceof Single s) {
            return new Deep(row(x), new Empty(), row(s.x()));
        }
        if (t instanceof Deep d) {
            if (d.l().size() < 4) {
                return new Deep(plus(row(x), d.l()), d.m(), d.r());
            }
            Node bcd = node(row(d.l().get(1), d.l().get(2), d.l().get(3)));
            return new Deep(row(x, d.l().get(0)), front(bcd, d.m()), d.r());
        }
        return new Single(x);
    }

    private Tree back(Tree t, Object x) {
        if (t instanceof Single s) {
            return new Deep(row(s.x()), new Empty(), row(x));
        }
        if (t instanceof Deep d) {
            if (d.r().size() < 4) {
                return new Deep(d.l(), d.m(), plus(d.r(), row(x)));
            }
            Node abc = node(row(d.r().get(0), d.r().get(1), d.r().get(2)));
            return new Deep(d.l(), back(d.m(), abc), row(d.r().get(3), x));
        }
        return new Single(x);
    }

    private Tree line(List<Object> row) {
        switch (row.size()) {
            case 0: return new Empty();
            case 1: return new Single(row.get(0));
            case 2: return new Deep(row(row.get(0)), new Empty(), row(row.get(1)));
            case 3: return new Deep(row(row.get(0), row.get(1)), new Empty(), row(row.get(2)));
            case 4: return new Deep(row(row.get(0), row.get(1)), new Empty(), row(row.get(2), row.get(3)));
            default: throw new IllegalStateException("LINE of " + row.size());
        }
    }

    private Tree open(List<Object> l, Tree m, List<Object> r) {
        if (!l.isEmpty() && !r.isEmpty()) {
            return new Deep(l, m, r);
        }
        if (l.isEmpty() && r.isEmpty()) {
            throw new IllegalStateException("OPEN with two empty rows");
        }
        if (m instanceof Empty) {
            return line(l.isEmpty() ? r : l);
        }
        List<Object> items = itemsOf(m);
        if (l.isEmpty()) {
            return new Deep(((Node) items.get(0)).items, rest(m), r);
        }
        return new Deep(l, lead(m), ((Node) items.get(items.size() - 1)).items);
    }

    private Tree rest(Tree t) {
        return t instanceof Deep d ? open(from(d.l(), 1), d.m(), d.r()) : new Empty();
    }

    private Tree lead(Tree t) {
        return t instanceof Deep d ? open(d.l(), d.m(), d.r().subList(0, d.r().size() - 1)) : new Empty();
    }

    private Tree join(Tree t, List<Object> row, Tree u) {
        if (t instanceof Empty) {
            return row.isEmpty() ? u : join(t, row.subList(0, row.size() - 1), front(row.get(row.size() - 1), u));
        }
        if (u instanceof Empty) {
            return row.isEmpty() ? t : join(back(t, row.get(0)), from(row, 1), u);
        }
        if (t instanceof Single s) {
            return front(s.x(), join(new Empty(), row, u));
        }
        if (u instanceof Single s) {
            return back(join(t, row, new Empty()), s.x());
        }
        Deep a = (Deep) t;
        Deep b = (Deep) u;
        return new Deep(a.l(), join(a.m(), groups(plus(plus(a.r(), row), b.l())), b.m()), b.r());
    }

    private List<Object> groups(List<Object> items) {
        if (items.size() <= 3) {
            return row(node(items));
        }
        if (items.size() == 4) {
            return row(node(items.subList(0, 2)), node(from(items, 2)));
        }
        return plus(row(node(items.subList(0, 3))), groups(from(items, 3)));
    }

    private Cut cut(Tree t, int p) {
        if (t instanceof Single s) {
            return new Cut(new Empty(), s.x(), new Empty());
        }
        Deep d = (Deep) t;
        int inLeft = size(d.l());
        int inMiddle = entries(d.m()).size();
        if (p < inLeft) {
            int i = holder(d.l(), p);
            return new Cut(line(d.l().subList(0, i)), d.l().get(i), open(from(d.l(), i + 1), d.m(), d.r()));
        }
        if (p >= inLeft + inMiddle) {
            int i = holder(d.r(), p - inLeft - inMiddle);
            return new Cut(open(d.l(), d.m(), d.r().subList(0, i)), d.r().get(i), line(from(d.r(), i + 1)));
        }
        Cut c = cut(d.m(), p - inLeft);
        List<Object> items = ((Node) c.item()).items;
        int i = holder(items, p - inLeft - entries(c.before()).size());
        return new Cut(open(d.l(), c.before(), items.subList(0, i)), items.get(i),
                open(from(items, i + 1), c.after(), d.r()));
    }

    private Tree[] halves(Tree t, int p) {
        if (p == entries(t).size()) {
            return new Tree[] {t, new Empty()};
        }
        Cut c = cut(t, p);
        return new Tree[] {c.before(), front(c.item(), c.after())};
    }

    private Object replaced(Object item, int p, Span by) {
        if (item instanceof Span) {
            return by;
        }
        return node(replacedIn(((Node) item).items, p, by));
    }

    private List<Object> replacedIn(List<Object> row, int p, Span by) {
        List<Object> copy = new ArrayList<>(row);
        int i = holder(row, p);
        copy.set(i, replaced(row.get(i), p - size(row.subList(0, i)), by));
        return copy;
    }

    private Tree replacedIn(Tree t, int p, Span by) {
        if (t instanceof Single s) {
            return new Single(replaced(s.x(), p, by));
        }
        Deep d = (Deep) t;
        int inLeft = size(d.l());
        int inMiddle = entries(d.m()).size();
        if (p < inLeft) {
            return new Deep(replacedIn(d.l(), p, by), d.m(), d.r());
        }
        if (p < inLeft + inMiddle) {
            return new Deep(d.l(), replacedIn(d.m(), p - inLeft, by), d.r());
        }
        return new Deep(d.l(), d.m(), replacedIn(d.r(), p - inLeft - inMiddle, by));
    }

    // ---- the face

    private boolean none(int v) {
        return v < 0 || v >= versions.size();
    }

    private int keep(Tree t) {
        versions.add(t);
        return versions.size() - 1;
    }

    private boolean noMore() {
        return versions.size() >= 120;
    }

    int count() {
        return versions.size();
    }

    int pushFront(int v, int low, int high) {
        if (none(v) || low > high) return -1;
        if (noMore() || length(v) == 40) return -2;
        return keep(front(new Span(low, high), versions.get(v)));
    }

    int pushBack(int v, int low, int high) {
        if (none(v) || low > high) return -1;
        if (noMore() || length(v) == 40) return -2;
        return keep(back(versions.get(v), new Span(low, high)));
    }

    int popFront(int v) {
        if (none(v) || length(v) == 0) return -1;
        return noMore() ? -2 : keep(rest(versions.get(v)));
    }

    int popBack(int v) {
        if (none(v) || length(v) == 0) return -1;
        return noMore() ? -2 : keep(lead(versions.get(v)));
    }

    int concat(int v, int w) {
        if (none(v) || none(w)) return -1;
        if (noMore() || length(v) + length(w) > 40) return -2;
        return keep(join(versions.get(v), row(), versions.get(w)));
    }

    int split(int v, int p) {
        if (none(v) || p < 0 || p > length(v)) return -1;
        if (versions.size() > 118) return -2;
        Tree[] two = halves(versions.get(v), p);
        int first = keep(two[0]);
        keep(two[1]);
        return first;
    }

    int replace(int v, int p, int low, int high) {
        if (none(v) || p < 0 || p >= length(v) || low > high) return -1;
        return noMore() ? -2 : keep(replacedIn(versions.get(v), p, new Span(low, high)));
    }

    int insert(int v, int low, int high) {
        if (none(v) || low > high) return -1;
        if (noMore() || length(v) == 40) return -2;
        int p = 0;
        while (p < length(v) && low(v, p) < low) {
            p++;
        }
        Tree[] two = halves(versions.get(v), p);
        return keep(join(two[0], row(), front(new Span(low, high), two[1])));
    }

    int removeTop(int v) {
        if (none(v) || length(v) == 0) return -1;
        if (noMore()) return -2;
        int top = 0;
        for (int p = 1; p < length(v); p++) {
            if (high(v, p) > high(v, top)) {
                top = p;
            }
        }
        Cut c = cut(versions.get(v), top);
        return keep(join(c.before(), row(), c.after()));
    }

    int length(int v) {
        return none(v) ? -1 : entries(versions.get(v)).size();
    }

    int low(int v, int p) {
        return none(v) || p < 0 || p >= length(v) ? 0 : entries(versions.get(v)).get(p).low();
    }

    int high(int v, int p) {
        return none(v) || p < 0 || p >= length(v) ? 0 : entries(versions.get(v)).get(p).high();
    }

    private static long measureOf(List<Span> spans, int kind) {
        if (spans.isEmpty()) return 0;
        switch (kind) {
            case 0: return spans.size();
            case 1: return spans.stream().mapToLong(Span::low).max().getAsLong();
            case 2: return spans.stream().mapToLong(Span::high).max().getAsLong();
            case 3: return spans.stream().mapToLong(s -> (long) s.high() - s.low() + 1).sum();
            default: return 0;
        }
    }

    long measure(int v, int kind) {
        return none(v) ? 0 : measureOf(entries(versions.get(v)), kind);
    }

    int search(int v, int kind, long limit) {
        if (none(v) || kind < 0 || kind > 3) return -1;
        List<Span> spans = entries(versions.get(v));
        for (int p = 0; p < spans.size(); p++) {
            long m = measureOf(spans.subList(0, p + 1), kind);
            if (kind == 0 || kind == 3 ? m > limit : m >= limit) {
                return p;
            }
        }
        return spans.size();
    }

    int meeting(int v, int from, int since, int to) {
        for (int p = 0; p < length(v); p++) {
            if (p >= from && low(v, p) <= to && high(v, p) >= since) {
                return p;
            }
        }
        return -1;
    }

    int spine(int v) {
        if (none(v)) return -1;
        return spineOf(versions.get(v));
    }

    private static int spineOf(Tree t) {
        if (t instanceof Deep d) return 2 + spineOf(d.m());
        return t instanceof Single ? 1 : 0;
    }

    int digit(int v, int level, boolean right) {
        if (none(v)) return -1;
        return digitOf(versions.get(v), level, right);
    }

    private static int digitOf(Tree t, int level, boolean right) {
        if (level < 0 || !(t instanceof Deep)) return 0;
        Deep d = (Deep) t;
        if (level > 0) return digitOf(d.m(), level - 1, right);
        return right ? d.r().size() : d.l().size();
    }

    int rank(int v, int p) {
        if (none(v) || p < 0 || p >= length(v)) return -1;
        List<Object> items = itemsOf(versions.get(v));
        int i = holder(items, p);
        return rankIn(items.get(i), p - size(items.subList(0, i)));
    }

    private static int rankIn(Object item, int p) {
        if (item instanceof Span) return 0;
        List<Object> items = ((Node) item).items;
        int i = holder(items, p);
        return 1 + rankIn(items.get(i), p - size(items.subList(0, i)));
    }

    int shared(int v, int w) {
        if (none(v) || none(w)) return -1;
        Set<Node> both = nodesOf(versions.get(v));
        both.retainAll(nodesOf(versions.get(w)));
        return both.size();
    }

    private static Set<Node> nodesOf(Tree t) {
        Set<Node> nodes = Collections.newSetFromMap(new IdentityHashMap<>());
        for (Object item : itemsOf(t)) {
            addNodes(item, nodes);
        }
        return nodes;
    }

    private static void addNodes(Object item, Set<Node> nodes) {
        if (item instanceof Node n) {
            nodes.add(n);
            for (Object part : n.items) {
                addNodes(part, nodes);
            }
        }
    }

    int made() {
        return made;
    }
}

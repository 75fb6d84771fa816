/**
 * A test for each promise of the document, with answers worked out by hand from its rules: ordinary
 * inputs, the edges that the document names, and wrong inputs.
 */
public final class PromisesTest {
    private static final int BAD = -1;
    private static final int FULL = -2;
    private static final int LEAST = Integer.MIN_VALUE;
    private static final int MOST = Integer.MAX_VALUE;

    private final Checks checks = new Checks();
    private String promise = "";

    public static void main(String[] args) {
        new PromisesTest().run();
    }

    private void run() {
        begin("the constants");
        due("BAD", FingerSpans.BAD, BAD);
        due("FULL", FingerSpans.FULL, FULL);
        newObject();
        pushFront();
        pushFrontRefused();
        pushBack();
        pushBackRefused();
        popFront();
        popFrontRefused();
        popBack();
        popBackRefused();
        concat();
        concatGroups();
        concatThroughMiddles();
        concatRefused();
        split();
        splitRefused();
        replace();
        replaceOfNodeStandingTwice();
        replaceRefused();
        insert();
        insertRefused();
        removeTop();
        removeTopRefused();
        length();
        lowAndHigh();
        measure();
        search();
        meeting();
        spine();
        digit();
        rank();
        shared();
        made();
        refusedCallsChangeNothing();
        lastVersion();
        checks.finish();
    }

    // ---- helpers

    private void begin(String name) {
        promise = name;
    }

    private void due(String call, long got, long want) {
        checks.due(promise + ": " + call, got, want);
    }

    private void dueText(String what, String got, String want) {
        checks.due(promise + ": " + what, got, want);
    }

    /** Pushes n entries (1, 1), (2, 2) .. to the back of version 0, each on the one before. */
    private static int backRun(FingerSpans x, int n) {
        int v = 0;
        for (int i = 1; i <= n; i++) {
            v = x.pushBack(v, i, i);
        }
        return v;
    }

    /** Pushes n entries (n, n), (n - 1, n - 1) .. (1, 1) to the front of version 0. */
    private static int frontRun(FingerSpans x, int n) {
        int v = 0;
        for (int i = n; i >= 1; i--) {
            v = x.pushFront(v, i, i);
        }
        return v;
    }

    /** The digits from level 0 down, left and right, and what stands at the end: 0 or 1. */
    private static String shape(FingerSpans x, int v) {
        StringBuilder text = new StringBuilder();
        for (int level = 0; x.digit(v, level, false) > 0; level++) {
            text.append(x.digit(v, level, false)).append('-').append(x.digit(v, level, true)).append(' ');
        }
        return text.append(x.spine(v) % 2).toString();
    }

    private static String lows(FingerSpans x, int v) {
        StringBuilder text = new StringBuilder();
        for (int p = 0; p < x.length(v); p++) {
            text.append(p == 0 ? "" : " ").append(x.low(v, p));
        }
        return text.toString();
    }

    private static String highs(FingerSpans x, int v) {
        StringBuilder text = new StringBuilder();
        for (int p = 0; p < x.length(v); p++) {
            text.append(p == 0 ? "" : " ").append(x.high(v, p));
        }
        return text.toString();
    }

    private static String ranks(FingerSpans x, int v) {
        StringBuilder text = new StringBuilder();
        for (int p = 0; p < x.length(v); p++) {
            text.append(x.rank(v, p));
        }
        return text.toString();
    }

    /** Makes copies of version 0 until there are so many versions. */
    private static void fillVersions(FingerSpans x, int count) {
        while (x.length(count - 1) == BAD) {
            x.concat(0, 0);
        }
    }

    // ---- promise 1

    private void newObject() {
        begin("promise 1, a new object");
        FingerSpans x = new FingerSpans();
        due("length(0)", x.length(0), 0);
        due("length(1)", x.length(1), BAD);
        due("length(-1)", x.length(-1), BAD);
        due("spine(0)", x.spine(0), 0);
        due("made()", x.made(), 0);
        due("shared(0, 0)", x.shared(0, 0), 0);
        due("pushBack(0, 3, 4)", x.pushBack(0, 3, 4), 1);
        FingerSpans other = new FingerSpans();
        due("length(1) of another object", other.length(1), BAD);
        backRun(other, 9);
        due("made() of the first object", x.made(), 0);
    }

    // ---- promise 2

    private void pushFront() {
        begin("promise 2, pushFront");
        FingerSpans x = new FingerSpans();
        frontRun(x, 21);
        String[] shapes = {"0", "1", "1-1 0", "2-1 0", "3-1 0", "4-1 0", "2-1 1", "3-1 1", "4-1 1", "2-1 1-1 0"};
        for (int v = 0; v < shapes.length; v++) {
            dueText("the shape of version " + v, shape(x, v), shapes[v]);
        }
        dueText("18 entries: a middle with a digit of four", shape(x, 18), "2-1 4-1 0");
        dueText("21 entries: that digit too", shape(x, 21), "2-1 2-1 1");
        dueText("the ranks", ranks(x, 21), "001111112222222221110");
        due("made()", x.made(), 7);
        dueText("the entries", lows(x, 21), "1 2 3 4 5 6 7 8 9 10 11 12 13 14 15 16 17 18 19 20 21");
        due("a version twice a source", x.pushFront(5, -9, 70), 22);
        due("low(22, 0)", x.low(22, 0), -9);
        due("high(22, 0)", x.high(22, 0), 70);
        due("a NEW node each time", x.shared(22, 6), 0);
        due("made()", x.made(), 8);
        due("the widest entry", x.pushFront(0, LEAST, MOST), 23);
        due("low == high", x.pushFront(0, 4, 4), 24);
    }

    private void pushFrontRefused() {
        begin("promise 2, pushFront refused");
        FingerSpans x = new FingerSpans();
        due("no version", x.pushFront(1, 0, 0), BAD);
        due("negative version", x.pushFront(-1, 0, 0), BAD);
        due("low > high", x.pushFront(0, 1, 0), BAD);
        due("low > high by far", x.pushFront(0, MOST, LEAST), BAD);
        frontRun(x, 40);
        due("40 entries", x.pushFront(40, 0, 0), FULL);
        due("40 entries, BAD before FULL", x.pushFront(40, 1, 0), BAD);
        due("39 entries", x.pushFront(39, 0, 0), 41);
        fillVersions(x, 120);
        due("120 versions", x.pushFront(1, 0, 0), FULL);
        due("120 versions, low > high", x.pushFront(1, 1, 0), BAD);
        due("120 versions, no version", x.pushFront(120, 0, 0), BAD);
        FingerSpans y = new FingerSpans();
        fillVersions(y, 119);
        due("the last version", y.pushFront(0, 0, 0), 119);
        due("one too many", y.pushFront(0, 0, 0), FULL);
    }

    // ---- promise 3

    private void pushBack() {
        begin("promise 3, pushBack");
        FingerSpans x = new FingerSpans();
        backRun(x, 21);
        String[] shapes = {"0", "1", "1-1 0", "1-2 0", "1-3 0", "1-4 0", "1-2 1", "1-3 1", "1-4 1", "1-2 1-1 0"};
        for (int v = 0; v < shapes.length; v++) {
            dueText("the shape of version " + v, shape(x, v), shapes[v]);
        }
        dueText("18 entries: a middle with a digit of four", shape(x, 18), "1-2 1-4 0");
        dueText("21 entries: that digit too", shape(x, 21), "1-2 1-2 1");
        dueText("the ranks", ranks(x, 21), "011122222222211111100");
        due("made()", x.made(), 7);
        dueText("the entries", lows(x, 21), "1 2 3 4 5 6 7 8 9 10 11 12 13 14 15 16 17 18 19 20 21");
        due("a version twice a source", x.pushBack(5, -9, 70), 22);
        due("low(22, 5)", x.low(22, 5), -9);
        due("high(22, 5)", x.high(22, 5), 70);
        due("a NEW node each time", x.shared(22, 6), 0);
        due("made()", x.made(), 8);
    }

    private void pushBackRefused() {
        begin("promise 3, pushBack refused");
        FingerSpans x = new FingerSpans();
        due("no version", x.pushBack(1, 0, 0), BAD);
        due("negative version", x.pushBack(LEAST, 0, 0), BAD);
        due("low > high", x.pushBack(0, 1, 0), BAD);
        backRun(x, 40);
        due("40 entries", x.pushBack(40, 0, 0), FULL);
        due("40 entries, BAD before FULL", x.pushBack(40, 1, 0), BAD);
        due("39 entries", x.pushBack(39, 0, 0), 41);
        fillVersions(x, 120);
        due("120 versions", x.pushBack(1, 0, 0), FULL);
        due("120 versions, low > high", x.pushBack(1, 1, 0), BAD);
        due("120 versions, no version", x.pushBack(MOST, 0, 0), BAD);
    }

    // ---- promise 4

    private void popFront() {
        begin("promise 4, popFront");
        FingerSpans x = new FingerSpans();
        int five = backRun(x, 5);
        dueText("1-4: LINE of four", shape(x, x.popFront(five)), "2-2 0");
        dueText("1-3: LINE of three", shape(x, x.popFront(4)), "2-1 0");
        dueText("1-2: LINE of two", shape(x, x.popFront(3)), "1-1 0");
        dueText("1-1: LINE of one", shape(x, x.popFront(2)), "1");
        dueText("SINGLE", shape(x, x.popFront(1)), "0");
        FingerSpans y = new FingerSpans();
        int v = backRun(y, 21);
        int made = y.made();
        // The left digit at level 1 is [node] here, so its REST takes the node of rank 2 apart.
        dueText("1-2 1-2 1", shape(y, v = y.popFront(v)), "3-2 3-2 0");
        dueText("the entries", lows(y, v), "2 3 4 5 6 7 8 9 10 11 12 13 14 15 16 17 18 19 20 21");
        due("the node of rank 2 alone is gone, and the one taken apart", y.shared(21, v), 5);
        v = y.popFront(v);
        v = y.popFront(v);
        dueText("two more", shape(y, v), "1-2 3-2 0");
        dueText("the digit at level 1", shape(y, y.popFront(v)), "3-2 2-2 0");
        due("no node is made", y.made(), made);
        dueText("the source stays", shape(y, 21), "1-2 1-2 1");
        due("length of the source", y.length(21), 21);
    }

    private void popFrontRefused() {
        begin("promise 4, popFront refused");
        FingerSpans x = new FingerSpans();
        due("EMPTY", x.popFront(0), BAD);
        due("no version", x.popFront(1), BAD);
        due("negative version", x.popFront(-1), BAD);
        x.pushBack(0, 1, 1);
        fillVersions(x, 120);
        due("120 versions", x.popFront(1), FULL);
        due("120 versions, EMPTY", x.popFront(0), BAD);
        due("120 versions, no version", x.popFront(120), BAD);
    }

    // ---- promise 5

    private void popBack() {
        begin("promise 5, popBack");
        FingerSpans x = new FingerSpans();
        int five = frontRun(x, 5);
        dueText("4-1: LINE of four", shape(x, x.popBack(five)), "2-2 0");
        dueText("3-1: LINE of three", shape(x, x.popBack(4)), "2-1 0");
        dueText("2-1: LINE of two", shape(x, x.popBack(3)), "1-1 0");
        dueText("1-1: LINE of one", shape(x, x.popBack(2)), "1");
        dueText("SINGLE", shape(x, x.popBack(1)), "0");
        FingerSpans y = new FingerSpans();
        int v = frontRun(y, 21);
        int made = y.made();
        dueText("2-1 2-1 1", shape(y, v = y.popBack(v)), "2-3 2-3 0");
        dueText("the entries", lows(y, v), "1 2 3 4 5 6 7 8 9 10 11 12 13 14 15 16 17 18 19 20");
        due("the node of rank 2 alone is gone, and the one taken apart", y.shared(21, v), 5);
        v = y.popBack(v);
        v = y.popBack(v);
        dueText("two more", shape(y, v), "2-1 2-3 0");
        dueText("the digit at level 1", shape(y, y.popBack(v)), "2-3 2-2 0");
        due("no node is made", y.made(), made);
        dueText("the source stays", shape(y, 21), "2-1 2-1 1");
    }

    private void popBackRefused() {
        begin("promise 5, popBack refused");
        FingerSpans x = new FingerSpans();
        due("EMPTY", x.popBack(0), BAD);
        due("no version", x.popBack(1), BAD);
        due("negative version", x.popBack(-1), BAD);
        x.pushBack(0, 1, 1);
        fillVersions(x, 120);
        due("120 versions", x.popBack(1), FULL);
        due("120 versions, EMPTY", x.popBack(0), BAD);
        due("120 versions, no version", x.popBack(120), BAD);
    }

    // ---- promise 6

    private void concat() {
        begin("promise 6, concat");
        FingerSpans x = new FingerSpans();
        int v = backRun(x, 9);
        int made = x.made();
        due("EMPTY with EMPTY", x.length(x.concat(0, 0)), 0);
        int before = x.concat(0, v);
        dueText("EMPTY before", shape(x, before), shape(x, v));
        due("EMPTY before: the very nodes", x.shared(before, v), 2);
        int behind = x.concat(v, 0);
        dueText("EMPTY behind", shape(x, behind), shape(x, v));
        int single = x.pushBack(0, 50, 60);
        dueText("SINGLE before: FRONT", shape(x, x.concat(single, v)), "2-2 1-1 0");
        dueText("SINGLE behind: BACK", shape(x, x.concat(v, single)), "1-3 1-1 0");
        dueText("SINGLE twice", shape(x, x.concat(single, single)), "1-1 0");
        due("none of these makes a node", x.made(), made);
        int full = x.concat(single, x.pushFront(x.pushFront(x.pushFront(5, 0, 0), 0, 0), 0, 0));
        dueText("SINGLE before a full digit", shape(x, full), "2-4 1");
        dueText("the entries", lows(x, x.concat(3, 4)), "1 2 3 1 2 3 4");
        dueText("itself", lows(x, x.concat(3, 3)), "1 2 3 1 2 3");
        dueText("the source stays", lows(x, 3), "1 2 3");
    }

    private void concatGroups() {
        begin("promise 6, concat, GROUPS");
        // r + l2 items between a tree 1-r and a tree l2-1: the nodes made, and their sizes.
        groups(1, 1, "1-1 1", "2");
        groups(2, 1, "1-1 1", "3");
        groups(2, 2, "1-1 1-1 0", "2 2");
        groups(3, 1, "1-1 1-1 0", "2 2");
        groups(2, 3, "1-1 1-1 0", "3 2");
        groups(3, 3, "1-1 1-1 0", "3 3");
        groups(3, 4, "1-1 2-1 0", "3 2 2");
        groups(4, 4, "1-1 2-1 0", "3 3 2");
    }

    private void groups(int r, int l2, String shape, String sizes) {
        FingerSpans x = new FingerSpans();
        int t = backRun(x, r + 1);
        int u = 0;
        for (int i = 0; i <= l2; i++) {
            u = x.pushFront(u, i, i);
        }
        int v = x.concat(t, u);
        dueText("the shape for " + r + " and " + l2, shape(x, v), shape);
        due("made() for " + r + " and " + l2, x.made(), sizes.split(" ").length);
        // The left digit is one item: without it, it becomes the items of the first node, and so on.
        StringBuilder found = new StringBuilder();
        int size = 1;
        for (int node = 0; node < x.made(); node++) {
            for (int i = 0; i < size; i++) {
                v = x.popFront(v);
            }
            size = x.digit(v, 0, false);
            found.append(node == 0 ? "" : " ").append(size);
        }
        dueText("the sizes for " + r + " and " + l2, found.toString(), sizes);
    }

    private void concatThroughMiddles() {
        begin("promise 6, concat, JOIN of middles");
        FingerSpans x = new FingerSpans();
        int v = backRun(x, 9);
        int made = x.made();
        // 1-2 1-1 0 twice: GROUPS(2 + 1) is a node g; the middles [n] EMPTY [o] give GROUPS(o, g, n),
        // one node of rank 2, between two EMPTY trees.
        int twice = x.concat(v, v);
        dueText("the shape", shape(x, twice), "1-2 1-1 1");
        dueText("the ranks", ranks(x, twice), "011122222222211100");
        due("made()", x.made(), made + 2);
        due("the different nodes", x.shared(twice, twice), 4);
        due("those of the source", x.shared(v, twice), 2);
        dueText("the entries", lows(x, twice), "1 2 3 4 5 6 7 8 9 1 2 3 4 5 6 7 8 9");
        // A middle that is SINGLE(n): the row is put before the other middle, and then n.
        dueText("SINGLE middle on the left", shape(x, x.concat(6, v)), "1-2 3-1 0");
        dueText("SINGLE middle on the right", shape(x, x.concat(v, 6)), "1-2 1-3 0");
        // An EMPTY middle: the row alone.
        dueText("EMPTY middle on the left", shape(x, x.concat(5, v)), "1-2 3-1 0");
        dueText("EMPTY middle on the right", shape(x, x.concat(v, 3)), "1-2 1-2 0");
        dueText("EMPTY middle left, SINGLE middle right", shape(x, x.concat(3, 6)), "1-2 1-1 0");
    }

    private void concatRefused() {
        begin("promise 6, concat refused");
        FingerSpans x = new FingerSpans();
        backRun(x, 21);
        due("no first version", x.concat(22, 0), BAD);
        due("no second version", x.concat(0, 22), BAD);
        due("negative versions", x.concat(-1, -1), BAD);
        due("41 entries", x.concat(20, 21), FULL);
        due("42 entries", x.concat(21, 21), FULL);
        int forty = x.concat(20, 20);
        due("40 entries", x.length(forty), 40);
        due("40 entries and EMPTY", x.length(x.concat(forty, 0)), 40);
        due("40 entries and one", x.concat(forty, 1), FULL);
        due("40 entries and no version", x.concat(forty, 99), BAD);
        fillVersions(x, 120);
        due("120 versions", x.concat(0, 0), FULL);
        due("120 versions, no version", x.concat(0, 120), BAD);
    }

    // ---- promise 7

    private void split() {
        begin("promise 7, split");
        FingerSpans x = new FingerSpans();
        int v = backRun(x, 9);
        int made = x.made();
        due("the lower number", x.split(v, 5), 10);
        dueText("the first", lows(x, 10), "1 2 3 4 5");
        dueText("the second", lows(x, 11), "6 7 8 9");
        due("the next number", x.split(v, 0), 12);
        dueText("at 0: the first", shape(x, 12), "0");
        // CUT takes the only item of the left digit, OPEN fills it with three, FRONT makes it four.
        dueText("at 0: the second", shape(x, 13), "4-2 1");
        dueText("at 0: the entries", lows(x, 13), "1 2 3 4 5 6 7 8 9");
        due("at the end", x.split(v, 9), 14);
        dueText("at the end: the first is the very tree", shape(x, 14), "1-2 1-1 0");
        dueText("at the end: the second", shape(x, 15), "0");
        // In the middle's first node [2, 3, 4] at its middle item 3: OPEN([1], EMPTY, [2]) and
        // FRONT(3, OPEN([4], SINGLE(o), [8, 9])).
        due("inside a node", x.split(v, 2), 16);
        dueText("inside a node: the first", shape(x, 16), "1-1 0");
        dueText("inside a node: the second", shape(x, 17), "2-2 1");
        due("inside a node: the other one is shared", x.shared(v, 17), 1);
        // At the node's last item 4: nothing of the node behind it, so o is taken apart.
        due("at a node's last item", x.split(v, 3), 18);
        dueText("at a node's last item: the second", shape(x, 19), "4-2 0");
        // At the second node's first item 5: nothing of the node before it, so n is taken apart.
        due("at a node's first item", x.split(v, 4), 20);
        dueText("at a node's first item: the first", shape(x, 20), "1-3 0");
        dueText("at a node's first item: the second", shape(x, 21), "3-2 0");
        // In the right digit.
        due("in the right digit", x.split(v, 8), 22);
        dueText("in the right digit: the first", shape(x, 22), "1-1 1-1 0");
        dueText("in the right digit: the second", shape(x, 23), "1");
        due("no node is made", x.made(), made);
        due("EMPTY", x.split(0, 0), 24);
        due("EMPTY: the second", x.length(25), 0);
        dueText("the source stays", lows(x, v), "1 2 3 4 5 6 7 8 9");
    }

    private void splitRefused() {
        begin("promise 7, split refused");
        FingerSpans x = new FingerSpans();
        int v = backRun(x, 3);
        due("p is -1", x.split(v, -1), BAD);
        due("p is one beyond the end", x.split(v, 4), BAD);
        due("p far beyond", x.split(v, MOST), BAD);
        due("no version", x.split(4, 0), BAD);
        due("negative version", x.split(-1, 0), BAD);
        fillVersions(x, 118);
        due("118 versions", x.split(v, 1), 118);
        due("120 versions", x.split(v, 1), FULL);
        FingerSpans y = new FingerSpans();
        fillVersions(y, 119);
        due("119 versions", y.split(0, 0), FULL);
        due("119 versions, BAD before FULL", y.split(0, 1), BAD);
        due("nothing was made", y.length(119), BAD);
        due("one more version has room", y.concat(0, 0), 119);
    }

    // ---- promise 8

    private void replace() {
        begin("promise 8, replace");
        FingerSpans x = new FingerSpans();
        int v = backRun(x, 21);
        due("made()", x.made(), 7);
        due("in a digit", x.replace(v, 0, 70, 80), 22);
        due("in a digit: no node", x.made(), 7);
        due("in a digit: all shared", x.shared(v, 22), 7);
        due("low(22, 0)", x.low(22, 0), 70);
        due("high(22, 0)", x.high(22, 0), 80);
        due("in the right digit", x.replace(v, 20, 70, 80), 23);
        due("low(23, 20)", x.low(23, 20), 70);
        due("in a node", x.replace(v, 2, 70, 80), 24);
        due("in a node: a node", x.made(), 8);
        due("in a node: the others shared", x.shared(v, 24), 6);
        due("in a node of a node", x.replace(v, 8, 70, 80), 25);
        due("in a node of a node: two nodes", x.made(), 10);
        due("in a node of a node: the others shared", x.shared(v, 25), 5);
        dueText("the entries", lows(x, 25), "1 2 3 4 5 6 7 8 70 10 11 12 13 14 15 16 17 18 19 20 21");
        dueText("the shape stays", shape(x, 25), shape(x, v));
        dueText("the ranks stay", ranks(x, 25), ranks(x, v));
        due("by the same entry: NEW nodes too", x.replace(v, 8, 9, 9), 26);
        due("by the same entry: made()", x.made(), 12);
        due("by the same entry: shared", x.shared(v, 26), 5);
        due("the source stays", x.low(v, 8), 9);
        due("SINGLE", x.high(x.replace(1, 0, 5, 6), 0), 6);
    }

    private void replaceOfNodeStandingTwice() {
        begin("promise 8, replace, a node that stands twice");
        FingerSpans x = new FingerSpans();
        int v = x.concat(backRun(x, 6), 6);
        dueText("n, g, n in the middle", shape(x, v), "1-2 2-1 0");
        due("two different nodes", x.shared(v, v), 2);
        int w = x.replace(v, 1, 70, 80);
        due("three different nodes", x.shared(w, w), 3);
        due("the old one still stands there", x.shared(v, w), 2);
        dueText("the entries", lows(x, w), "1 70 3 4 5 6 1 2 3 4 5 6");
        int u = x.replace(w, 7, 71, 81);
        due("now it is gone", x.shared(v, u), 1);
        dueText("the entries", lows(x, u), "1 70 3 4 5 6 1 71 3 4 5 6");
    }

    private void replaceRefused() {
        begin("promise 8, replace refused");
        FingerSpans x = new FingerSpans();
        int v = backRun(x, 3);
        due("p is -1", x.replace(v, -1, 0, 0), BAD);
        due("p is the length", x.replace(v, 3, 0, 0), BAD);
        due("EMPTY", x.replace(0, 0, 0, 0), BAD);
        due("low > high", x.replace(v, 0, 1, 0), BAD);
        due("no version", x.replace(4, 0, 0, 0), BAD);
        due("negative version", x.replace(-1, 0, 0, 0), BAD);
        fillVersions(x, 120);
        due("120 versions", x.replace(v, 0, 0, 0), FULL);
        due("120 versions, low > high", x.replace(v, 0, 1, 0), BAD);
        due("120 versions, no place", x.replace(v, 3, 0, 0), BAD);
        FingerSpans y = new FingerSpans();
        due("40 entries are no hindrance", y.replace(backRun(y, 40), 39, 0, 0), 41);
    }

    // ---- promise 9

    private void insert() {
        begin("promise 9, insert");
        FingerSpans x = new FingerSpans();
        int v = x.pushBack(x.pushBack(x.pushBack(0, 5, 5), 1, 1), 9, 9);
        dueText("before the first that is as great, not in order", lows(x, x.insert(v, 3, 3)), "3 5 1 9");
        dueText("between", lows(x, x.insert(v, 6, 6)), "5 1 6 9");
        dueText("behind all", lows(x, x.insert(v, 10, 10)), "5 1 9 10");
        int same = x.insert(v, 9, 20);
        dueText("before an equal one", lows(x, same), "5 1 9 9");
        dueText("before an equal one: the highs", highs(x, same), "5 1 20 9");
        dueText("into EMPTY", lows(x, x.insert(0, 4, 4)), "4");
        dueText("the least LOW", lows(x, x.insert(v, LEAST, 0)), "-2147483648 5 1 9");
        dueText("the greatest LOW", lows(x, x.insert(v, MOST, MOST)), "5 1 9 2147483647");
        FingerSpans y = new FingerSpans();
        int nine = backRun(y, 9);
        int made = y.made();
        // HALVES at 4: 1-3 0 and 3-2 0; FRONT makes the second 4-2; GROUPS(3 + 4) are three nodes.
        int between = y.insert(nine, 5, 77);
        dueText("the shape", shape(y, between), "1-2 2-1 0");
        due("the nodes made", y.made(), made + 3);
        due("none is that of the source", y.shared(nine, between), 0);
        // HALVES at 9 gives the tree itself and EMPTY: SINGLE is joined by BACK.
        dueText("at the end", shape(y, y.insert(nine, 10, 10)), "1-3 1-1 0");
        // HALVES at 0: EMPTY and 4-2 1, whose left digit is full: FRONT makes a node of it.
        dueText("at the start", shape(y, y.insert(nine, 0, 0)), "2-2 1-1 0");
        dueText("the source stays", lows(y, nine), "1 2 3 4 5 6 7 8 9");
    }

    private void insertRefused() {
        begin("promise 9, insert refused");
        FingerSpans x = new FingerSpans();
        due("no version", x.insert(1, 0, 0), BAD);
        due("negative version", x.insert(-1, 0, 0), BAD);
        due("low > high", x.insert(0, 1, 0), BAD);
        backRun(x, 40);
        due("40 entries", x.insert(40, 0, 0), FULL);
        due("40 entries, BAD before FULL", x.insert(40, 1, 0), BAD);
        due("39 entries", x.insert(39, 0, 0), 41);
        fillVersions(x, 120);
        due("120 versions", x.insert(0, 0, 0), FULL);
        due("120 versions, no version", x.insert(120, 0, 0), BAD);
    }

    // ---- promise 10

    private void removeTop() {
        begin("promise 10, removeTop");
        FingerSpans x = new FingerSpans();
        int v = x.pushBack(x.pushBack(x.pushBack(x.pushBack(0, 1, 5), 2, 9), 3, 9), 4, 8);
        int w = x.removeTop(v);
        dueText("the first of two", lows(x, w), "1 3 4");
        w = x.removeTop(w);
        dueText("the second of two", lows(x, w), "1 4");
        w = x.removeTop(w);
        dueText("the next", lows(x, w), "1");
        w = x.removeTop(w);
        dueText("the last", shape(x, w), "0");
        dueText("the source stays", lows(x, v), "1 2 3 4");
        int negative = x.pushBack(x.pushBack(0, LEAST, LEAST), LEAST, -5);
        dueText("negative highs", highs(x, x.removeTop(negative)), "-2147483648");
        FingerSpans y = new FingerSpans();
        int nine = backRun(y, 9);
        int made = y.made();
        // The top is 9, last in the right digit: JOIN with EMPTY.
        dueText("at the end", shape(y, y.removeTop(nine)), "1-1 1-1 0");
        due("at the end: no node", y.made(), made);
        // With 3 as the top: CUT gives 1-1 0 and 1-2 1; GROUPS(1 + 1) is one node before o.
        int top = y.replace(nine, 2, 3, 99);
        int without = y.removeTop(top);
        dueText("inside a node", shape(y, without), "1-2 1-1 0");
        dueText("inside a node: the entries", lows(y, without), "1 2 4 5 6 7 8 9");
        due("inside a node: shared", y.shared(nine, without), 1);
        due("inside a node: made()", y.made(), made + 2);
    }

    private void removeTopRefused() {
        begin("promise 10, removeTop refused");
        FingerSpans x = new FingerSpans();
        due("EMPTY", x.removeTop(0), BAD);
        due("no version", x.removeTop(1), BAD);
        due("negative version", x.removeTop(-1), BAD);
        x.pushBack(0, 1, 1);
        fillVersions(x, 120);
        due("120 versions", x.removeTop(1), FULL);
        due("120 versions, EMPTY", x.removeTop(0), BAD);
    }

    // ---- promises 11 to 16

    private void length() {
        begin("promise 11, length");
        FingerSpans x = new FingerSpans();
        backRun(x, 40);
        for (int v = 0; v <= 40; v++) {
            due("length(" + v + ")", x.length(v), v);
        }
        due("length(41)", x.length(41), BAD);
        due("length(-1)", x.length(-1), BAD);
        due("length of the greatest int", x.length(MOST), BAD);
    }

    private void lowAndHigh() {
        begin("promises 12 and 13, low and high");
        FingerSpans x = new FingerSpans();
        int v = 0;
        for (int i = 0; i < 40; i++) {
            v = x.pushFront(v, -i, 3 * i);
        }
        for (int p = 0; p < 40; p++) {
            due("low at " + p, x.low(v, p), p - 39);
            due("high at " + p, x.high(v, p), 3 * (39 - p));
        }
        int[] noPlaces = {-1, 40, MOST, LEAST};
        for (int p : noPlaces) {
            due("low at " + p, x.low(v, p), 0);
            due("high at " + p, x.high(v, p), 0);
        }
        due("low of no version", x.low(41, 0), 0);
        due("high of no version", x.high(41, 0), 0);
        due("low of version -1", x.low(-1, 0), 0);
        due("high of version -1", x.high(-1, 0), 0);
        due("low of EMPTY", x.low(0, 0), 0);
        due("high of EMPTY", x.high(0, 0), 0);
    }

    private void measure() {
        begin("promise 14, measure");
        FingerSpans x = new FingerSpans();
        int v = x.pushBack(x.pushBack(x.pushBack(0, -7, -3), -9, -9), -8, -1);
        due("kind 0", x.measure(v, 0), 3);
        due("kind 1", x.measure(v, 1), -7);
        due("kind 2", x.measure(v, 2), -1);
        due("kind 3", x.measure(v, 3), 5 + 1 + 8);
        due("kind -1", x.measure(v, -1), 0);
        due("kind 4", x.measure(v, 4), 0);
        due("no version", x.measure(4, 0), 0);
        due("negative version", x.measure(-1, 0), 0);
        for (int kind = 0; kind < 4; kind++) {
            due("EMPTY, kind " + kind, x.measure(0, kind), 0);
        }
        int wide = 0;
        for (int i = 0; i < 40; i++) {
            wide = x.pushBack(wide, LEAST, MOST);
        }
        due("the greatest sum of widths", x.measure(wide, 3), 40L << 32);
        due("the least LOW", x.measure(wide, 1), LEAST);
        due("the greatest HIGH", x.measure(wide, 2), MOST);
    }

    private void search() {
        begin("promise 15, search");
        FingerSpans x = new FingerSpans();
        int v = x.pushBack(x.pushBack(x.pushBack(x.pushBack(0, 3, 4), 1, 9), 6, 6), 6, 12);
        due("kind 0, -1", x.search(v, 0, -1), 0);
        due("kind 0, 0", x.search(v, 0, 0), 0);
        due("kind 0, 1", x.search(v, 0, 1), 1);
        due("kind 0, 3", x.search(v, 0, 3), 3);
        due("kind 0, 4", x.search(v, 0, 4), 4);
        due("kind 1, 3", x.search(v, 1, 3), 0);
        due("kind 1, 4", x.search(v, 1, 4), 2);
        due("kind 1, 6", x.search(v, 1, 6), 2);
        due("kind 1, 7", x.search(v, 1, 7), 4);
        due("kind 2, 4", x.search(v, 2, 4), 0);
        due("kind 2, 5", x.search(v, 2, 5), 1);
        due("kind 2, 10", x.search(v, 2, 10), 3);
        due("kind 2, 13", x.search(v, 2, 13), 4);
        due("kind 3, 1", x.search(v, 3, 1), 0);
        due("kind 3, 2", x.search(v, 3, 2), 1);
        due("kind 3, 10", x.search(v, 3, 10), 1);
        due("kind 3, 11", x.search(v, 3, 11), 2);
        due("kind 3, 18", x.search(v, 3, 18), 3);
        due("kind 3, 19", x.search(v, 3, 19), 4);
        for (int kind = 0; kind < 4; kind++) {
            due("the least limit, kind " + kind, x.search(v, kind, Long.MIN_VALUE), 0);
            due("the greatest limit, kind " + kind, x.search(v, kind, Long.MAX_VALUE), 4);
            due("EMPTY, kind " + kind, x.search(0, kind, Long.MIN_VALUE), 0);
        }
        due("kind -1", x.search(v, -1, 0), BAD);
        due("kind 4", x.search(v, 4, 0), BAD);
        due("EMPTY, kind 4", x.search(0, 4, 0), BAD);
        due("no version", x.search(5, 0, 0), BAD);
        due("negative version", x.search(-1, 0, 0), BAD);
        int negative = x.pushBack(x.pushBack(0, -9, -8), LEAST, -2);
        due("negative LOW, at least", x.search(negative, 1, -9), 0);
        due("negative LOW, below", x.search(negative, 1, -8), 2);
        due("negative HIGH", x.search(negative, 2, -5), 1);
        due("negative HIGH, not 0", x.search(negative, 2, 0), 2);
        due("a limit beyond the ints", x.search(negative, 1, LEAST - 1L), 0);
    }

    private void meeting() {
        begin("promise 16, meeting");
        FingerSpans x = new FingerSpans();
        int v = x.pushBack(x.pushBack(x.pushBack(x.pushBack(0, 3, 4), 1, 9), 6, 6), 6, 12);
        due("from the start", x.meeting(v, 0, 5, 5), 1);
        due("from that place itself", x.meeting(v, 1, 5, 5), 1);
        due("none after it", x.meeting(v, 2, 5, 5), BAD);
        due("LOW == to", x.meeting(v, 2, 0, 6), 2);
        due("HIGH == since", x.meeting(v, 2, 12, 20), 3);
        due("beyond all", x.meeting(v, 0, 13, 20), BAD);
        due("below all", x.meeting(v, 0, -5, 0), BAD);
        // since > to: an entry must reach over both.
        due("since > to", x.meeting(v, 0, 8, 2), 1);
        due("since > to, none", x.meeting(v, 0, 10, 2), BAD);
        due("a negative from", x.meeting(v, -1, 3, 3), 0);
        due("the least from", x.meeting(v, LEAST, 3, 3), 0);
        due("from at the length", x.meeting(v, 4, LEAST, MOST), BAD);
        due("the greatest from", x.meeting(v, MOST, LEAST, MOST), BAD);
        due("EMPTY", x.meeting(0, 0, LEAST, MOST), BAD);
        due("no version", x.meeting(5, 0, LEAST, MOST), BAD);
        due("negative version", x.meeting(-1, 0, LEAST, MOST), BAD);
    }

    // ---- promises 17 to 21

    private void spine() {
        begin("promise 17, spine");
        FingerSpans x = new FingerSpans();
        backRun(x, 21);
        due("EMPTY", x.spine(0), 0);
        due("SINGLE", x.spine(1), 1);
        due("DEEP", x.spine(2), 2);
        due("DEEP with an EMPTY middle", x.spine(5), 2);
        due("DEEP with a SINGLE middle", x.spine(6), 3);
        due("two DEEP", x.spine(9), 4);
        due("two DEEP and SINGLE", x.spine(21), 5);
        due("no version", x.spine(22), BAD);
        due("negative version", x.spine(-1), BAD);
    }

    private void digit() {
        begin("promise 18, digit");
        FingerSpans x = new FingerSpans();
        backRun(x, 21);
        due("left of level 0", x.digit(20, 0, false), 1);
        due("right of level 0", x.digit(20, 0, true), 4);
        due("left of level 1", x.digit(20, 1, false), 1);
        due("right of level 1", x.digit(20, 1, true), 4);
        due("level 2 is EMPTY", x.digit(20, 2, true), 0);
        due("level 2 is SINGLE", x.digit(21, 2, false), 0);
        due("level 3 is none", x.digit(21, 3, false), 0);
        due("the greatest level", x.digit(21, MOST, true), 0);
        due("level -1", x.digit(21, -1, true), 0);
        due("the least level", x.digit(21, LEAST, false), 0);
        due("EMPTY", x.digit(0, 0, false), 0);
        due("SINGLE", x.digit(1, 0, false), 0);
        due("no version", x.digit(22, 0, false), BAD);
        due("no version, no level", x.digit(-1, -1, false), BAD);
    }

    private void rank() {
        begin("promise 19, rank");
        FingerSpans x = new FingerSpans();
        int v = backRun(x, 21);
        dueText("each place", ranks(x, v), "011122222222211111100");
        due("SINGLE", x.rank(1, 0), 0);
        due("p is -1", x.rank(v, -1), BAD);
        due("p is the length", x.rank(v, 21), BAD);
        due("the greatest p", x.rank(v, MOST), BAD);
        due("EMPTY", x.rank(0, 0), BAD);
        due("no version", x.rank(22, 0), BAD);
        due("negative version", x.rank(-1, 0), BAD);
    }

    private void shared() {
        begin("promise 20, shared");
        FingerSpans x = new FingerSpans();
        int v = backRun(x, 21);
        due("itself", x.shared(v, v), 7);
        due("a version before it", x.shared(v, 18), 5);
        due("the other way round", x.shared(18, v), 5);
        due("asked again", x.shared(18, v), 5);
        due("EMPTY", x.shared(v, 0), 0);
        due("EMPTY first", x.shared(0, v), 0);
        int alike = 0;
        for (int i = 1; i <= 21; i++) {
            alike = x.pushBack(alike, i, i);
        }
        due("nodes of the same items are not the same", x.shared(v, alike), 0);
        int twice = x.concat(6, 6);
        due("a node that stands twice, first", x.shared(twice, 6), 1);
        due("a node that stands twice, second", x.shared(6, twice), 1);
        due("a node that stands twice, both", x.shared(twice, twice), 2);
        // The node of rank 2 holds the first nodes that were made, which stand alone in version 9.
        due("a node inside a node and alone", x.shared(9, v), 2);
        due("no second version", x.shared(v, 99), BAD);
        due("no first version", x.shared(99, v), BAD);
        due("negative version", x.shared(-1, 0), BAD);
    }

    private void made() {
        begin("promise 21, made");
        FingerSpans x = new FingerSpans();
        due("at the start", x.made(), 0);
        backRun(x, 5);
        due("five entries", x.made(), 0);
        x.pushBack(5, 0, 0);
        due("six entries", x.made(), 1);
        x.pushBack(5, 0, 0);
        due("six entries once more", x.made(), 2);
        x.length(6);
        x.shared(6, 7);
        x.search(6, 0, 3);
        due("questions make none", x.made(), 2);
        x.pushBack(5, 1, 0);
        x.pushBack(8, 0, 1);
        due("refused calls make none", x.made(), 2);
        x.popFront(6);
        x.popBack(6);
        x.split(6, 3);
        due("popFront, popBack and split make none", x.made(), 2);
        x.replace(6, 1, 0, 0);
        due("replace", x.made(), 3);
        // 1-2 1 twice: GROUPS of three.
        x.concat(6, 6);
        due("concat", x.made(), 4);
    }

    // ---- a refused call changes nothing

    private void refusedCallsChangeNothing() {
        begin("refused calls");
        FingerSpans x = new FingerSpans();
        backRun(x, 40);
        fillVersions(x, 120);
        int made = x.made();
        String ranks = ranks(x, 20);
        due("pushFront", x.pushFront(20, 0, 0), FULL);
        due("pushBack", x.pushBack(20, 0, 0), FULL);
        due("popFront", x.popFront(20), FULL);
        due("popBack", x.popBack(20), FULL);
        due("concat", x.concat(20, 3), FULL);
        due("split", x.split(20, 7), FULL);
        due("replace", x.replace(20, 5, 0, 0), FULL);
        due("insert", x.insert(20, 7, 7), FULL);
        due("removeTop", x.removeTop(20), FULL);
        due("made()", x.made(), made);
        due("length(119)", x.length(119), 0);
        due("length(120)", x.length(120), BAD);
        dueText("the ranks", ranks(x, 20), ranks);
        dueText("the entries", lows(x, 10), "1 2 3 4 5 6 7 8 9 10");
    }

    // ---- version 119 has room in every call

    private void lastVersion() {
        begin("the last version");
        due("pushFront", nearlyFull().pushFront(3, 0, 0), 119);
        due("pushBack", nearlyFull().pushBack(3, 0, 0), 119);
        due("popFront", nearlyFull().popFront(3), 119);
        due("popBack", nearlyFull().popBack(3), 119);
        due("concat", nearlyFull().concat(3, 3), 119);
        due("replace", nearlyFull().replace(3, 1, 0, 0), 119);
        due("insert", nearlyFull().insert(3, 2, 2), 119);
        due("removeTop", nearlyFull().removeTop(3), 119);
    }

    private static FingerSpans nearlyFull() {
        FingerSpans x = new FingerSpans();
        backRun(x, 3);
        fillVersions(x, 119);
        return x;
    }
}

/**
 * The promises 1 to 21 of the document, sentence by sentence: what the calls make and answer, with
 * the edges that the sentence names. What is refused stands in RefusalsTest, the rules by themselves
 * in TermsTest.
 */
public final class PromisesTest {
    private static final int BAD = Views.BAD;
    private static final int LEAST = Views.LEAST;
    private static final int MOST = Views.MOST;

    private final Checks checks = new Checks();

    public static void main(String[] args) {
        new PromisesTest().run();
    }

    private void run() {
        constants();
        newObject();
        pushFront();
        pushBack();
        popFront();
        popBack();
        concat();
        concatOfItself();
        split();
        replaceEntry();
        replaceNodes();
        replaceNodeThatStandsTwice();
        replaceNodeThatStandsInNodes();
        insertPlace();
        insertTree();
        removeTopPlace();
        removeTopTree();
        length();
        lowAndHigh();
        measure();
        measureAtTheEdges();
        searchGreater();
        searchAtLeast();
        searchNoPlace();
        searchTakenByThemselves();
        meetingBounds();
        meetingWhicheverIsGreater();
        meetingFrom();
        spine();
        digit();
        rank();
        shared();
        sharedCountsOnce();
        madeByMakingCalls();
        madeByEachCall();
        checks.finish();
    }

    // ---- helpers

    private void due(String call, long got, long want) {
        checks.due(call, got, want);
    }

    private void shape(String what, FingerSpans x, int v, String want) {
        checks.due("the shape of " + what, Views.shape(x, v), want);
    }

    private void lows(String what, FingerSpans x, int v, String want) {
        checks.due("the lows of " + what, Views.lows(x, v), want);
    }

    private void highs(String what, FingerSpans x, int v, String want) {
        checks.due("the highs of " + what, Views.highs(x, v), want);
    }

    /** Version 4: (3, 4), (1, 9), (6, 6), (6, 12), with widths 2, 9, 1 and 7. */
    private static FingerSpans fourSpans() {
        FingerSpans x = new FingerSpans();
        x.pushBack(x.pushBack(x.pushBack(x.pushBack(0, 3, 4), 1, 9), 6, 6), 6, 12);
        return x;
    }

    // ---- promise 1 and the constants

    private void constants() {
        checks.about("BAD = -1; FULL = -2");
        due("BAD", FingerSpans.BAD, -1);
        due("FULL", FingerSpans.FULL, -2);
    }

    private void newObject() {
        checks.about("promise 1: Version 0 alone; no node was made");
        FingerSpans x = new FingerSpans();
        due("length(0)", x.length(0), 0);
        due("length(1)", x.length(1), BAD);
        due("spine(0)", x.spine(0), 0);
        due("shared(0, 0)", x.shared(0, 0), 0);
        due("made()", x.made(), 0);
        due("the first version made", x.pushBack(0, 3, 4), 1);
        FingerSpans other = new FingerSpans();
        due("length(1) of another object", other.length(1), BAD);
        Views.backRun(other, 9);
        due("made() of the first object", x.made(), 0);
        due("made() of the other", other.made(), 2);
    }

    // ---- promises 2 to 5

    private void pushFront() {
        checks.about("promise 2: FRONT(the entry low, high; v) becomes a version; answers its number");
        FingerSpans x = new FingerSpans();
        int v = Views.frontRun(x, 40);
        due("its number", v, 40);
        lows("40 entries", x, v, Views.upTo(40));
        highs("40 entries", x, v, Views.upTo(40));
        due("on a version from before", x.pushFront(5, -9, 70), 41);
        lows("41", x, 41, "-9 36 37 38 39 40");
        due("high(41, 0)", x.high(41, 0), 70);
        shape("41", x, 41, "2-1 1");
        due("on EMPTY", x.pushFront(0, LEAST, MOST), 42);
        shape("42", x, 42, "1");
        lows("the source", x, 5, "36 37 38 39 40");
    }

    private void pushBack() {
        checks.about("promise 3: BACK(v, the entry low, high) becomes a version; answers its number");
        FingerSpans x = new FingerSpans();
        int v = Views.backRun(x, 40);
        due("its number", v, 40);
        lows("40 entries", x, v, Views.upTo(40));
        highs("40 entries", x, v, Views.upTo(40));
        due("on a version from before", x.pushBack(5, -9, 70), 41);
        lows("41", x, 41, "1 2 3 4 5 -9");
        due("high(41, 5)", x.high(41, 5), 70);
        shape("41", x, 41, "1-2 1");
        due("on EMPTY", x.pushBack(0, LEAST, MOST), 42);
        shape("42", x, 42, "1");
        lows("the source", x, 5, "1 2 3 4 5");
    }

    private void popFront() {
        checks.about("promise 4: REST(v) becomes a version; answers its number");
        FingerSpans x = new FingerSpans();
        int v = Views.backRun(x, 21);
        int made = x.made();
        due("its number", v = x.popFront(v), 22);
        shape("1-2 1-2 1 without its first", x, v, "3-2 3-2 0");
        v = x.popFront(x.popFront(v));
        shape("two more", x, v, "1-2 3-2 0");
        shape("one more, which opens a node", x, x.popFront(v), "3-2 2-2 0");
        due("no node is made", x.made(), made);
        lows("the source", x, 21, Views.upTo(21));
    }

    private void popBack() {
        checks.about("promise 5: LEAD(v) becomes a version; answers its number");
        FingerSpans x = new FingerSpans();
        int v = Views.frontRun(x, 21);
        int made = x.made();
        due("its number", v = x.popBack(v), 22);
        shape("2-1 2-1 1 without its last", x, v, "2-3 2-3 0");
        v = x.popBack(x.popBack(v));
        shape("two more", x, v, "2-1 2-3 0");
        shape("one more, which opens a node", x, x.popBack(v), "2-3 2-2 0");
        due("no node is made", x.made(), made);
        lows("the source", x, 21, Views.upTo(21));
    }

    // ---- promises 6 and 7

    private void concat() {
        checks.about("promise 6: JOIN(v, the empty row, w) becomes a version; answers its number");
        FingerSpans x = new FingerSpans();
        Views.backRun(x, 9);
        due("its number", x.concat(3, 4), 10);
        lows("3 and 4", x, 10, "1 2 3 1 2 3 4");
        shape("3 and 4", x, 10, "1-3 1");
        due("with EMPTY, a version of its own", x.concat(9, 0), 11);
        shape("9 and EMPTY", x, 11, "1-2 1-1 0");
        due("EMPTY with EMPTY, a version of its own", x.concat(0, 0), 12);
        lows("the sources", x, 3, "1 2 3");
        lows("the sources", x, 4, "1 2 3 4");
    }

    private void concatOfItself() {
        checks.about("promise 6: (v may be w.)");
        FingerSpans x = new FingerSpans();
        Views.backRun(x, 20);
        due("its number", x.concat(20, 20), 21);
        lows("20 twice", x, 21, Views.upTo(20) + " " + Views.upTo(20));
        due("SINGLE twice", x.length(x.concat(1, 1)), 2);
        due("EMPTY twice", x.length(x.concat(0, 0)), 0);
        lows("the source", x, 20, Views.upTo(20));
    }

    private void split() {
        checks.about("promise 7: The two trees of HALVES(v, p) become two versions, the first one with the lower"
                + " number, which is the answer; the second has one more");
        FingerSpans x = new FingerSpans();
        int v = Views.backRun(x, 9);
        due("at 5", x.split(v, 5), 10);
        lows("the first at 5", x, 10, "1 2 3 4 5");
        lows("the second at 5", x, 11, "6 7 8 9");
        due("at 0", x.split(v, 0), 12);
        lows("the first at 0", x, 12, "");
        lows("the second at 0", x, 13, Views.upTo(9));
        due("at the number of entries", x.split(v, 9), 14);
        lows("the first at 9", x, 14, Views.upTo(9));
        lows("the second at 9", x, 15, "");
        due("EMPTY at 0", x.split(0, 0), 16);
        due("EMPTY: the first", x.length(16), 0);
        due("EMPTY: the second", x.length(17), 0);
        due("the next number", x.pushBack(0, 1, 1), 18);
        lows("the source", x, v, Views.upTo(9));
    }

    // ---- promise 8

    private void replaceEntry() {
        checks.about("promise 8: The version v with the entry at place p replaced by low, high becomes a version");
        FingerSpans x = new FingerSpans();
        int v = Views.backRun(x, 21);
        for (int p = 0; p < 21; p++) {
            int w = x.replace(v, p, 70, 80 + p);
            due("its number at " + p, w, 22 + p);
            String due = (" " + Views.upTo(21) + " ").replace(" " + (p + 1) + " ", " 70 ").trim();
            lows("the version at " + p, x, w, due);
            due("the high at " + p, x.high(w, p), 80 + p);
            shape("the version at " + p, x, w, "1-2 1-2 1");
            checks.due("the ranks at " + p, Views.ranks(x, w), "011122222222211111100");
        }
        int single = x.replace(1, 0, LEAST, MOST);
        shape("SINGLE", x, single, "1");
        due("SINGLE: low", x.low(single, 0), LEAST);
        due("SINGLE: high", x.high(single, 0), MOST);
        lows("the source", x, v, Views.upTo(21));
    }

    private void replaceNodes() {
        checks.about("promise 8: Every node around that place is replaced there by a NEW node with as many items, in"
                + " which the one item that holds the place is replaced; everything else is that of v");
        FingerSpans x = new FingerSpans();
        int v = Views.backRun(x, 21);
        due("the nodes of v", x.shared(v, v), 7);
        for (int p = 0; p < 21; p++) {
            int made = x.made();
            int around = x.rank(v, p);
            int w = x.replace(v, p, 70, 80);
            due("the NEW nodes at " + p, x.made(), made + around);
            due("the others, of v, at " + p, x.shared(v, w), 7 - around);
            due("all nodes at " + p, x.shared(w, w), 7);
        }
        int made = x.made();
        due("by an equal entry: NEW nodes too", x.shared(v, x.replace(v, 8, 9, 9)), 5);
        due("by an equal entry: made()", x.made(), made + 2);
        int two = x.replace(x.concat(2, 2), 1, 70, 80);
        due("a node of two stays one of two", x.digit(x.popFront(two), 0, false), 2);
        int three = x.replace(6, 3, 70, 80);
        due("a node of three stays one of three", x.digit(x.popFront(three), 0, false), 3);
    }

    private void replaceNodeThatStandsTwice() {
        checks.about("promise 8: (also such a node where it stands in v a second time, as it may after concat)");
        FingerSpans x = new FingerSpans();
        Views.backRun(x, 6);
        int v = x.concat(6, 6);
        shape("n, g, n in the middle", x, v, "1-2 2-1 0");
        due("two different nodes", x.shared(v, v), 2);
        int first = x.replace(v, 1, 70, 80);
        lows("the first replaced", x, first, "1 70 3 4 5 6 1 2 3 4 5 6");
        due("three different nodes", x.shared(first, first), 3);
        due("the old one still stands there", x.shared(v, first), 2);
        int second = x.replace(v, 7, 70, 80);
        lows("the second replaced", x, second, "1 2 3 4 5 6 1 70 3 4 5 6");
        due("the old one still stands there, too", x.shared(v, second), 2);
        int both = x.replace(first, 7, 71, 81);
        lows("both replaced", x, both, "1 70 3 4 5 6 1 71 3 4 5 6");
        due("now it is gone", x.shared(v, both), 1);
    }

    private void replaceNodeThatStandsInNodes() {
        checks.about("promise 8: also such a node where it stands in v a second time");
        FingerSpans x = new FingerSpans();
        int v = Views.backRun(x, 2);
        for (int i = 0; i < 4; i++) {
            v = x.concat(v, v);
        }
        // 1 | n g | A | BC | DA | B | n | 2 with n, g, g', g'' of rank 1 and A = (n, g'), B = (n, g),
        // C = (n, g''), D = (n, g) of rank 2: ten different nodes.
        shape("32 entries", x, v, "1-1 2-1 1-1 1-1 0");
        due("the different nodes", x.shared(v, v), 10);
        int made = x.made();
        // The first place of n in B in BC: the NEW ones are those three, and BC alone stands nowhere else.
        int w = x.replace(v, 9, 70, 80);
        due("the NEW nodes", x.made(), made + 3);
        due("the nodes of v that stay", x.shared(v, w), 9);
        due("the different nodes with the NEW ones", x.shared(w, w), 12);
        String[] entries = Views.lows(x, v).split(" ");
        entries[9] = "70";
        lows("32 entries with one replaced", x, w, String.join(" ", entries));
    }

    // ---- promise 9

    private void insertPlace() {
        FingerSpans x = new FingerSpans();
        int v = x.pushBack(x.pushBack(x.pushBack(0, 5, 5), 1, 1), 9, 9);
        checks.about("promise 9: With p the place of the first entry of v whose LOW is at least low");
        lows("3, before 5, though 1 stands behind", x, x.insert(v, 3, 3), "3 5 1 9");
        lows("6, before 9", x, x.insert(v, 6, 6), "5 1 6 9");
        int same = x.insert(v, 9, 20);
        lows("9, before the other 9", x, same, "5 1 9 9");
        highs("9, before the other 9", x, same, "5 1 20 9");
        int first = x.insert(same, 9, 30);
        highs("9, before the first of two", x, first, "5 1 30 20 9");
        lows("the least LOW", x, x.insert(v, LEAST, 0), "-2147483648 5 1 9");
        int least = x.insert(x.pushBack(0, LEAST, 1), LEAST, 2);
        highs("the least LOW, before its like", x, least, "2 1");
        checks.about("promise 9: (the number of v's entries if there is none)");
        lows("10", x, x.insert(v, 10, 10), "5 1 9 10");
        lows("the greatest LOW", x, x.insert(v, MOST, MOST), "5 1 9 2147483647");
        lows("into EMPTY", x, x.insert(0, 4, 4), "4");
        lows("negative LOWs", x, x.insert(x.pushBack(0, -8, 0), -7, -7), "-8 -7");
        lows("the source", x, v, "5 1 9");
    }

    private void insertTree() {
        checks.about("promise 9: JOIN(t, the empty row, FRONT(the entry low, high; u)) becomes a version; answers its number");
        FingerSpans x = new FingerSpans();
        int v = Views.backRun(x, 9);
        int made = x.made();
        // HALVES at 4: 1-3 0 and 3-2 0; FRONT makes the second 4-2; GROUPS(3 + 4) are three nodes.
        due("its number", x.insert(v, 5, 77), 10);
        shape("between", x, 10, "1-2 2-1 0");
        lows("between", x, 10, "1 2 3 4 5 5 6 7 8 9");
        highs("between", x, 10, "1 2 3 4 77 5 6 7 8 9");
        due("the nodes made", x.made(), made + 3);
        due("none is that of the source", x.shared(v, 10), 0);
        // HALVES at 9 gives the tree itself and EMPTY: SINGLE is joined by BACK.
        int behind = x.insert(v, 10, 10);
        shape("behind all", x, behind, "1-3 1-1 0");
        due("behind all: the nodes of the source", x.shared(v, behind), 2);
        // HALVES at 0: EMPTY and 4-2 1, whose left digit is full: FRONT makes a node of it.
        int before = x.insert(v, 0, 0);
        shape("before all", x, before, "2-2 1-1 0");
        due("made() in the end", x.made(), made + 4);
        shape("into EMPTY", x, x.insert(0, 0, 0), "1");
        lows("the source", x, v, Views.upTo(9));
    }

    // ---- promise 10

    private void removeTopPlace() {
        checks.about("promise 10: the place of the first of those entries of v that have the greatest HIGH");
        FingerSpans x = new FingerSpans();
        int v = x.pushBack(x.pushBack(x.pushBack(x.pushBack(0, 1, 5), 2, 9), 3, 9), 4, 8);
        int w = x.removeTop(v);
        lows("the first of two gone", x, w, "1 3 4");
        w = x.removeTop(w);
        lows("the second of two gone", x, w, "1 4");
        w = x.removeTop(w);
        lows("the next gone", x, w, "1");
        w = x.removeTop(w);
        shape("the last gone", x, w, "0");
        lows("the source", x, v, "1 2 3 4");
        int alike = x.pushBack(x.pushBack(x.pushBack(0, 1, 7), 2, 7), 3, 7);
        lows("all alike", x, x.removeTop(alike), "2 3");
        int negative = x.pushBack(x.pushBack(0, LEAST, LEAST), LEAST, -5);
        highs("negative HIGHs", x, x.removeTop(negative), "-2147483648");
        int least = x.pushBack(x.pushBack(0, LEAST, LEAST), LEAST, LEAST);
        highs("the least HIGH twice", x, x.removeTop(least), "-2147483648");
        int wide = x.pushBack(x.pushBack(0, 5, 6), LEAST, 5);
        lows("HIGH, not the width or LOW", x, x.removeTop(wide), "-2147483648");
    }

    private void removeTopTree() {
        checks.about("promise 10: CUT(v, p) = t, x, u: JOIN(t, the empty row, u) becomes a version; answers its number");
        FingerSpans x = new FingerSpans();
        int v = Views.backRun(x, 9);
        int made = x.made();
        due("its number", x.removeTop(v), 10);
        shape("the last one gone", x, 10, "1-1 1-1 0");
        due("the last one gone: no node", x.made(), made);
        // With 3 as the top: CUT gives 1-1 0 and 1-2 1; GROUPS(1 + 1) is one node before o.
        int top = x.replace(v, 2, 3, 99);
        int without = x.removeTop(top);
        shape("one inside a node gone", x, without, "1-2 1-1 0");
        lows("one inside a node gone", x, without, "1 2 4 5 6 7 8 9");
        due("one inside a node gone: shared", x.shared(v, without), 1);
        due("one inside a node gone: made()", x.made(), made + 2);
        // With 1 as the top: CUT gives EMPTY and 3-2 1, the first node taken apart.
        int first = x.removeTop(x.replace(v, 0, 1, 99));
        shape("the first one gone", x, first, "3-2 1");
        shape("SINGLE", x, x.removeTop(1), "0");
        lows("the source", x, v, Views.upTo(9));
    }

    // ---- promises 11 to 13

    private void length() {
        checks.about("promise 11: The number of entries of v");
        FingerSpans x = new FingerSpans();
        Views.backRun(x, 40);
        for (int v = 0; v <= 40; v++) {
            due("length(" + v + ")", x.length(v), v);
        }
    }

    private void lowAndHigh() {
        checks.about("promises 12 and 13: The LOW (HIGH) of the entry at place p of v");
        FingerSpans x = new FingerSpans();
        int v = 0;
        for (int i = 0; i < 40; i++) {
            v = x.pushFront(v, -i, 3 * i);
        }
        for (int p = 0; p < 40; p++) {
            due("low at " + p, x.low(v, p), p - 39);
            due("high at " + p, x.high(v, p), 3 * (39 - p));
        }
        int edges = x.pushBack(x.pushBack(0, LEAST, LEAST), MOST, MOST);
        due("the least LOW", x.low(edges, 0), LEAST);
        due("the least HIGH", x.high(edges, 0), LEAST);
        due("the greatest LOW", x.low(edges, 1), MOST);
        due("the greatest HIGH", x.high(edges, 1), MOST);
    }

    // ---- promise 14

    private void measure() {
        FingerSpans x = fourSpans();
        checks.about("promise 14: kind 0: the number of entries of v");
        due("kind 0", x.measure(4, 0), 4);
        checks.about("promise 14: 1: the greatest LOW of them");
        due("kind 1", x.measure(4, 1), 6);
        due("kind 1 of the first two", x.measure(2, 1), 3);
        checks.about("promise 14: 2: the greatest HIGH");
        due("kind 2", x.measure(4, 2), 12);
        due("kind 2 of the first three", x.measure(3, 2), 9);
        checks.about("promise 14: 3: the sum of their widths");
        due("kind 3", x.measure(4, 3), 2 + 9 + 1 + 7);
        FingerSpans y = new FingerSpans();
        for (int v = Views.backRun(y, 40), kind = 0; kind <= 2; kind++) {
            due("40 entries, kind " + kind, y.measure(v, kind), 40);
        }
    }

    private void measureAtTheEdges() {
        checks.about("promise 14, at the ends of the ints");
        FingerSpans x = new FingerSpans();
        int v = x.pushBack(x.pushBack(x.pushBack(0, -7, -3), -9, -9), -8, -1);
        due("negative, kind 1", x.measure(v, 1), -7);
        due("negative, kind 2", x.measure(v, 2), -1);
        due("negative, kind 3", x.measure(v, 3), 5 + 1 + 8);
        int least = x.pushBack(0, LEAST, LEAST);
        due("the least, kind 1", x.measure(least, 1), LEAST);
        due("the least, kind 2", x.measure(least, 2), LEAST);
        int wide = 0;
        for (int i = 0; i < 40; i++) {
            wide = x.pushBack(wide, LEAST, MOST);
        }
        due("the widest, kind 1", x.measure(wide, 1), LEAST);
        due("the widest, kind 2", x.measure(wide, 2), MOST);
        due("the widest 40 times, kind 3", x.measure(wide, 3), 40L << 32);
    }

    // ---- promise 15

    private void searchGreater() {
        FingerSpans x = fourSpans();
        checks.about("promise 15: for kind 0 .. greater than limit");
        due("kind 0, -1", x.search(4, 0, -1), 0);
        due("kind 0, 0", x.search(4, 0, 0), 0);
        due("kind 0, 1", x.search(4, 0, 1), 1);
        due("kind 0, 3", x.search(4, 0, 3), 3);
        due("kind 0, 4", x.search(4, 0, 4), 4);
        checks.about("promise 15: for kind 0 and 3 greater than limit");
        due("kind 3, 1", x.search(4, 3, 1), 0);
        due("kind 3, 2", x.search(4, 3, 2), 1);
        due("kind 3, 10", x.search(4, 3, 10), 1);
        due("kind 3, 11", x.search(4, 3, 11), 2);
        due("kind 3, 12", x.search(4, 3, 12), 3);
        due("kind 3, 18", x.search(4, 3, 18), 3);
        due("kind 3, 19", x.search(4, 3, 19), 4);
        int wide = x.pushBack(x.pushBack(0, LEAST, MOST), LEAST, MOST);
        due("kind 3, one less than two of the widest", x.search(wide, 3, (2L << 32) - 1), 1);
        due("kind 3, two of the widest", x.search(wide, 3, 2L << 32), 2);
    }

    private void searchAtLeast() {
        FingerSpans x = fourSpans();
        checks.about("promise 15: for kind 1 and 2 at least limit");
        due("kind 1, 3", x.search(4, 1, 3), 0);
        due("kind 1, 4", x.search(4, 1, 4), 2);
        due("kind 1, 6", x.search(4, 1, 6), 2);
        due("kind 1, 7", x.search(4, 1, 7), 4);
        due("kind 2, 4", x.search(4, 2, 4), 0);
        due("kind 2, 5", x.search(4, 2, 5), 1);
        due("kind 2, 9", x.search(4, 2, 9), 1);
        due("kind 2, 10", x.search(4, 2, 10), 3);
        due("kind 2, 12", x.search(4, 2, 12), 3);
        due("kind 2, 13", x.search(4, 2, 13), 4);
        int edges = x.pushBack(x.pushBack(0, LEAST, LEAST), MOST, MOST);
        for (int kind = 1; kind <= 2; kind++) {
            due("the least int, kind " + kind, x.search(edges, kind, LEAST), 0);
            due("one more, kind " + kind, x.search(edges, kind, LEAST + 1L), 1);
            due("the greatest int, kind " + kind, x.search(edges, kind, MOST), 1);
            due("beyond the ints, kind " + kind, x.search(edges, kind, MOST + 1L), 2);
            due("below the ints, kind " + kind, x.search(edges, kind, LEAST - 1L), 0);
        }
    }

    private void searchNoPlace() {
        FingerSpans x = fourSpans();
        checks.about("promise 15: the number of v's entries when there is no such place");
        for (int kind = 0; kind < 4; kind++) {
            due("the greatest limit, kind " + kind, x.search(4, kind, Long.MAX_VALUE), 4);
            due("the least limit, kind " + kind, x.search(4, kind, Long.MIN_VALUE), 0);
            due("EMPTY, kind " + kind, x.search(0, kind, Long.MIN_VALUE), 0);
            due("EMPTY, kind " + kind, x.search(0, kind, Long.MAX_VALUE), 0);
        }
    }

    private void searchTakenByThemselves() {
        checks.about("promise 15: measure(.., kind) of the entries at 0 .. p, taken by themselves");
        FingerSpans x = new FingerSpans();
        int v = x.pushBack(x.pushBack(0, -9, -8), LEAST, -2);
        // No entry is measured as 0: the greatest of negative numbers is negative.
        due("kind 1, -9", x.search(v, 1, -9), 0);
        due("kind 1, -8", x.search(v, 1, -8), 2);
        due("kind 2, -5", x.search(v, 2, -5), 1);
        due("kind 2, 0", x.search(v, 2, 0), 2);
        FingerSpans y = new FingerSpans();
        int all = Views.backRun(y, 40);
        for (int p = 0; p < 40; p++) {
            due("kind 0 at " + p, y.search(all, 0, p), p);
            due("kind 1 at " + p, y.search(all, 1, p + 1), p);
            due("kind 2 at " + p, y.search(all, 2, p + 1), p);
            due("kind 3 at " + p, y.search(all, 3, p), p);
        }
    }

    // ---- promise 16

    private void meetingBounds() {
        checks.about("promise 16: The least place p >= from of v whose entry has LOW <= to and HIGH >= since");
        FingerSpans x = fourSpans();
        due("the least of two", x.meeting(4, 0, 6, 6), 1);
        due("LOW == to", x.meeting(4, 2, 0, 6), 2);
        due("LOW one more than to", x.meeting(4, 2, 0, 5), BAD);
        due("HIGH == since", x.meeting(4, 2, 12, 20), 3);
        due("HIGH one less than since", x.meeting(4, 2, 13, 20), BAD);
        due("all ints", x.meeting(4, 0, LEAST, MOST), 0);
        int edges = x.pushBack(x.pushBack(0, LEAST, LEAST), MOST, MOST);
        due("the least int", x.meeting(edges, 0, LEAST, LEAST), 0);
        due("the greatest int", x.meeting(edges, 0, MOST, MOST), 1);
        due("all ints between", x.meeting(edges, 0, LEAST + 1, MOST - 1), BAD);
    }

    private void meetingWhicheverIsGreater() {
        checks.about("promise 16: (whichever of the two numbers is the greater)");
        FingerSpans x = fourSpans();
        // With since > to an entry must reach from to to since.
        due("8, 2", x.meeting(4, 0, 8, 2), 1);
        due("9, 1", x.meeting(4, 0, 9, 1), 1);
        due("10, 1", x.meeting(4, 0, 10, 1), BAD);
        due("9, 0", x.meeting(4, 0, 9, 0), BAD);
        due("4, 3", x.meeting(4, 0, 4, 3), 0);
        due("the greatest, the least", x.meeting(4, 0, MOST, LEAST), BAD);
        int widest = x.pushBack(4, LEAST, MOST);
        due("the greatest, the least, with the widest entry", x.meeting(widest, 0, MOST, LEAST), 4);
    }

    private void meetingFrom() {
        FingerSpans x = fourSpans();
        checks.about("promise 16: p >= from");
        due("before it", x.meeting(4, 0, 5, 5), 1);
        due("at it", x.meeting(4, 1, 5, 5), 1);
        due("behind it", x.meeting(4, 2, 5, 5), BAD);
        due("at the last place", x.meeting(4, 3, 7, 7), 3);
        checks.about("promise 16: A negative from counts as 0");
        due("-1", x.meeting(4, -1, 3, 3), 0);
        due("the least int", x.meeting(4, LEAST, 3, 3), 0);
    }

    // ---- promises 17 to 19

    private void spine() {
        FingerSpans x = new FingerSpans();
        Views.backRun(x, 40);
        checks.about("promise 17: Twice the number of DEEP trees among v, its middle, the middle of that, and so on");
        due("EMPTY", x.spine(0), 0);
        due("DEEP", x.spine(2), 2);
        due("DEEP, with r of four", x.spine(5), 2);
        due("two DEEP", x.spine(9), 4);
        due("two DEEP, with digits of four", x.spine(20), 4);
        due("three DEEP", x.spine(30), 6);
        due("three DEEP, 40 entries", x.spine(40), 6);
        checks.about("promise 17: and 1 more when the last one of these (which has no middle) is SINGLE");
        due("SINGLE", x.spine(1), 1);
        due("DEEP and SINGLE", x.spine(6), 3);
        due("DEEP and SINGLE", x.spine(8), 3);
        due("two DEEP and SINGLE", x.spine(21), 5);
        due("two DEEP and SINGLE", x.spine(29), 5);
    }

    private void digit() {
        checks.about("promise 18: The number of items in the left (right: in the right) digit of the tree at level");
        FingerSpans x = new FingerSpans();
        Views.backRun(x, 20);
        Views.frontRun(x, 20);
        due("left of level 0", x.digit(20, 0, false), 1);
        due("right of level 0", x.digit(20, 0, true), 4);
        due("left of level 1", x.digit(20, 1, false), 1);
        due("right of level 1", x.digit(20, 1, true), 4);
        due("left of level 0, from the front", x.digit(40, 0, false), 4);
        due("right of level 0, from the front", x.digit(40, 0, true), 1);
        due("left of level 1, from the front", x.digit(40, 1, false), 4);
        due("right of level 1, from the front", x.digit(40, 1, true), 1);
        checks.about("promise 18: level 0 is v, level k + 1 the middle of the tree at level k");
        int all = x.concat(20, 40);
        due("left of level 0, 40 entries", x.digit(all, 0, false), 1);
        due("left of level 1, 40 entries", x.digit(all, 1, false), 1);
        due("left of level 2", x.digit(all, 2, false), 3);
        due("right of level 2", x.digit(all, 2, true), 1);
    }

    private void rank() {
        checks.about("promise 19: The number of nodes, one inside the other, that stand around place p in v");
        FingerSpans x = new FingerSpans();
        Views.backRun(x, 21);
        checks.due("SINGLE", Views.ranks(x, 1), "0");
        checks.due("DEEP", Views.ranks(x, 5), "00000");
        checks.due("a node", Views.ranks(x, 6), "011100");
        checks.due("two nodes in the digits of a middle", Views.ranks(x, 9), "011111100");
        checks.due("nodes in a node", Views.ranks(x, 21), "011122222222211111100");
    }

    // ---- promises 20 and 21

    private void shared() {
        checks.about("promise 20: The number of nodes, of any rank, that are part both of v and of w, the very same nodes");
        FingerSpans x = new FingerSpans();
        int v = Views.backRun(x, 21);
        due("a version before it", x.shared(v, 18), 5);
        due("the other way round", x.shared(18, v), 5);
        due("asked again", x.shared(18, v), 5);
        due("EMPTY second", x.shared(v, 0), 0);
        due("EMPTY first", x.shared(0, v), 0);
        due("no nodes", x.shared(5, v), 0);
        due("nodes inside a node, alone in the other", x.shared(9, v), 2);
        int alike = 0;
        for (int i = 1; i <= 21; i++) {
            alike = x.pushBack(alike, i, i);
        }
        due("nodes of equal items", x.shared(v, alike), 0);
        // In the second, a NEW node of rank 2 has two of the nodes of rank 1 of the first.
        due("nodes of rank 1 alone", x.shared(v, x.replace(v, 4, 4, 4)), 5);
    }

    private void sharedCountsOnce() {
        FingerSpans x = new FingerSpans();
        int v = Views.backRun(x, 21);
        checks.about("promise 20: a node counts once, however often it stands in them");
        int twice = x.concat(6, 6);
        due("twice in the first", x.shared(twice, 6), 1);
        due("twice in the second", x.shared(6, twice), 1);
        int thrice = x.concat(twice, 6);
        due("twice and three times", x.shared(twice, thrice), 2);
        due("three times and twice", x.shared(thrice, twice), 2);
        checks.about("promise 20: (For v = w: the number of different nodes of v.)");
        due("seven", x.shared(v, v), 7);
        due("one of two twice", x.shared(twice, twice), 2);
        due("none", x.shared(5, 5), 0);
        due("SINGLE", x.shared(1, 1), 0);
        due("EMPTY", x.shared(0, 0), 0);
    }

    private void madeByMakingCalls() {
        checks.about("promise 21: The number of nodes made so far by the calls that made versions");
        FingerSpans x = new FingerSpans();
        due("at the start", x.made(), 0);
        Views.backRun(x, 5);
        due("five entries", x.made(), 0);
        x.pushBack(5, 0, 0);
        due("six entries", x.made(), 1);
        x.pushBack(5, 0, 0);
        due("six entries once more", x.made(), 2);
        x.popBack(6);
        due("a node that is part of no new version stays counted", x.made(), 2);
    }

    private void madeByEachCall() {
        checks.about("promise 21, call by call");
        FingerSpans x = new FingerSpans();
        Views.backRun(x, 6);
        int full = x.pushFront(x.pushFront(x.pushFront(5, 0, 0), 0, 0), 0, 0);
        due("pushBack", x.made(), 1);
        x.pushFront(full, 0, 0);
        due("pushFront", x.made(), 2);
        x.popFront(6);
        x.popBack(6);
        x.split(6, 3);
        due("popFront, popBack and split make none", x.made(), 2);
        x.replace(6, 0, 0, 0);
        due("replace in a digit makes none", x.made(), 2);
        x.replace(6, 1, 0, 0);
        due("replace in a node", x.made(), 3);
        x.concat(6, 6);
        due("concat, GROUPS of three", x.made(), 4);
        // HALVES of 1-2 1 at 3: 1-2 0 and 2-1 0, which FRONT makes 3-1: GROUPS(2 + 3).
        x.insert(6, 4, 4);
        due("insert", x.made(), 6);
        // CUT of 1-2 1 at its last place: nothing to join.
        x.removeTop(6);
        due("removeTop at the end makes none", x.made(), 6);
        // CUT at place 2: 1-1 0 and 1-2 0: GROUPS(1 + 1).
        x.removeTop(x.replace(6, 2, 3, 99));
        due("replace, and removeTop inside a node", x.made(), 8);
    }
}

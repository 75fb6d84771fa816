/**
 * 'What it is' and 'Terms' of the document: a test for each sentence that names a boundary case,
 * with that sentence, and answers worked out from it by hand.
 */
public final class TermsTest {
    private final Checks checks = new Checks();

    public static void main(String[] args) {
        new TermsTest().run();
    }

    private void run() {
        noVersionChanges();
        callsOfAnObject();
        lowAtMostHigh();
        width();
        nodesOfTwoOrThree();
        digitsOfOneToFour();
        entriesInOrder();
        places();
        numbers();
        mostVersions();
        mostEntries();
        deepest();
        newNodes();
        front();
        back();
        line();
        openLeft();
        openRight();
        rest();
        lead();
        joinEmpty();
        joinSingle();
        joinInOrder();
        joinDeep();
        groups();
        groupsOfMany();
        cutSingle();
        cutInDigits();
        cutInMiddle();
        cutInNodes();
        cutEverywhere();
        halves();
        checks.finish();
    }

    // ---- helpers

    private void due(String call, long got, long want) {
        checks.due(call, got, want);
    }

    private void shape(String what, FingerSpans x, int v, String want) {
        checks.due("the shape of " + what, Views.shape(x, v), want);
    }

    private void lows(String what, FingerSpans x, int v, String want) {
        checks.due("the entries of " + what, Views.lows(x, v), want);
    }

    private void ranks(String what, FingerSpans x, int v, String want) {
        checks.due("the ranks in " + what, Views.ranks(x, v), want);
    }

    /** The two trees of split(v, p); all entries stay in order, and no node is made. */
    private void split(FingerSpans x, int v, int p, String first, String second) {
        int made = x.made();
        String all = Views.lows(x, v);
        int t = x.split(v, p);
        shape("the first tree at " + p, x, t, first);
        shape("the second tree at " + p, x, t + 1, second);
        due("the entries of the first tree at " + p, x.length(t), p);
        checks.due("all entries at " + p, (Views.lows(x, t) + " " + Views.lows(x, t + 1)).trim(), all);
        due("made() at " + p, x.made(), made);
    }

    // ---- what it is

    private void noVersionChanges() {
        checks.about("a new version shares what it can with the versions it comes from, and no version ever changes");
        FingerSpans x = new FingerSpans();
        Views.backRun(x, 21);
        String[] before = new String[22];
        for (int v = 0; v <= 21; v++) {
            before[v] = Views.whole(x, v);
        }
        for (int v = 5; v <= 21; v += 8) {
            x.pushFront(v, -1, 99);
            x.pushBack(v, -1, 99);
            x.popFront(v);
            x.popBack(v);
            x.concat(v, 18 - v / 3);
            x.split(v, v / 2);
            x.replace(v, 0, -1, 99);
            x.replace(v, v / 2, -1, 99);
            x.replace(v, v - 1, -1, 99);
            x.insert(v, v / 2, 99);
            x.removeTop(v);
        }
        for (int v = 0; v <= 21; v++) {
            checks.due("version " + v, Views.whole(x, v), before[v]);
        }
    }

    private void callsOfAnObject() {
        checks.about("An object is used for at most 512 calls after it has been made");
        FingerSpans x = Views.withVersions(40, 120);
        // Twelve nodes of rank 1 and three of rank 2, of which 38 has not the last of each.
        for (int call = 120; call < 512; call++) {
            due("shared(40, 38), call " + call, x.shared(40, 38), 13);
        }
        due("shared(40, 40), call 512", x.shared(40, 40), 15);
        // What the calls after these answer is free, but none may fail.
        for (int call = 0; call < 2000; call++) {
            x.shared(call % 120, 40);
            x.pushBack(call % 120, call, call);
        }
    }

    // ---- entries, items, trees and versions

    private void lowAtMostHigh() {
        checks.about("An ENTRY is a span: two ints LOW and HIGH with LOW <= HIGH");
        int[][] spans = {{7, 7}, {6, 7}, {0, 0}, {-1, 0}, {Views.LEAST, Views.LEAST}, {Views.MOST, Views.MOST},
            {Views.LEAST, Views.MOST}};
        for (int[] span : spans) {
            FingerSpans x = new FingerSpans();
            due("pushFront of " + span[0], x.pushFront(0, span[0], span[1]), 1);
            due("pushBack of " + span[0], x.pushBack(0, span[0], span[1]), 2);
            due("insert of " + span[0], x.insert(0, span[0], span[1]), 3);
            due("replace by " + span[0], x.replace(x.pushBack(0, 1, 2), 0, span[0], span[1]), 5);
            for (int v = 1; v <= 5; v += v == 3 ? 2 : 1) {
                due("low(" + v + ", 0)", x.low(v, 0), span[0]);
                due("high(" + v + ", 0)", x.high(v, 0), span[1]);
            }
        }
    }

    private void width() {
        checks.about("Its WIDTH is HIGH - LOW + 1, worked out exactly, as a long");
        width(5, 5, 1);
        width(Views.LEAST, Views.LEAST, 1);
        width(Views.MOST, Views.MOST, 1);
        width(-3, 3, 7);
        width(0, Views.MOST, 2147483648L);
        width(Views.LEAST, -1, 2147483648L);
        width(Views.LEAST, 0, 2147483649L);
        width(-1, Views.MOST, 2147483649L);
        width(Views.LEAST, Views.MOST, 4294967296L);
    }

    private void width(int low, int high, long width) {
        FingerSpans x = new FingerSpans();
        x.pushBack(0, low, high);
        String span = low + " .. " + high;
        due("measure of " + span, x.measure(1, 3), width);
        due("search below the width of " + span, x.search(1, 3, width - 1), 0);
        due("search at the width of " + span, x.search(1, 3, width), 1);
    }

    private void nodesOfTwoOrThree() {
        checks.about("a NODE: a row of two or three items of rank k");
        FingerSpans x = new FingerSpans();
        Views.backRun(x, 6);
        int two = x.concat(2, 2);
        ranks("1, [2, 1], 2", x, two, "0110");
        due("the left digit that a node of two becomes", x.digit(x.popFront(two), 0, false), 2);
        due("the right digit that a node of two becomes", x.digit(x.popBack(two), 0, true), 2);
        ranks("1, [2, 3, 4], 5, 6", x, 6, "011100");
        due("the left digit that a node of three becomes", x.digit(x.popFront(6), 0, false), 3);
        due("the right digit that a node of three becomes", x.digit(x.popBack(x.popBack(6)), 0, true), 3);
    }

    private void digitsOfOneToFour() {
        checks.about("the DIGITS l and r are rows of one to four items of rank k each");
        FingerSpans x = new FingerSpans();
        Views.frontRun(x, 40);
        for (int v = 2; v <= 40; v++) {
            due("left of " + v, x.digit(v, 0, false), v <= 5 ? v - 1 : 2 + v % 3);
            due("right of " + v, x.digit(v, 0, true), 1);
        }
        FingerSpans y = new FingerSpans();
        Views.backRun(y, 40);
        for (int v = 2; v <= 40; v++) {
            due("left of " + v + ", from the back", y.digit(v, 0, false), 1);
            due("right of " + v + ", from the back", y.digit(v, 0, true), v <= 5 ? v - 1 : 2 + v % 3);
        }
    }

    private void entriesInOrder() {
        checks.about("The entries of a tree, in order, are those of x; or those of l, then those of m, then those of r");
        FingerSpans x = new FingerSpans();
        int v = x.pushFront(x.pushBack(0, 7, 8), 9, 9);
        lows("DEEP without a middle", x, v, "9 7");
        lows("SINGLE", x, 1, "7");
        lows("EMPTY", x, 0, "");
        for (int i = 10; i < 20; i++) {
            v = i % 2 == 0 ? x.pushFront(v, i, i) : x.pushBack(v, i, i);
        }
        shape("DEEP", x, v, "3-3 1-1 0");
        lows("DEEP", x, v, "18 16 14 12 10 9 7 11 13 15 17 19");
    }

    private void places() {
        checks.about("Its PLACES are 0 .. (number of its entries) - 1");
        FingerSpans x = new FingerSpans();
        Views.backRun(x, 40);
        for (int v = 0; v <= 40; v++) {
            for (int p = 0; p < v; p++) {
                due("low(" + v + ", " + p + ")", x.low(v, p), p + 1);
                due("high(" + v + ", " + p + ")", x.high(v, p), p + 1);
            }
            due("rank(" + v + ", -1)", x.rank(v, -1), Views.BAD);
            due("rank at the number of entries of " + v, x.rank(v, v), Views.BAD);
            due("low at the number of entries of " + v, x.low(v, v), 0);
            due("high at the number of entries of " + v, x.high(v, v), 0);
        }
    }

    private void numbers() {
        checks.about("Versions have numbers 0, 1, 2, .. in the order in which they are made; version 0 is EMPTY");
        FingerSpans x = new FingerSpans();
        due("length(0)", x.length(0), 0);
        due("spine(0)", x.spine(0), 0);
        due("pushFront", x.pushFront(0, 1, 1), 1);
        due("pushBack", x.pushBack(1, 2, 2), 2);
        due("popFront", x.popFront(2), 3);
        due("popBack", x.popBack(2), 4);
        due("concat", x.concat(2, 2), 5);
        due("split", x.split(5, 1), 6);
        due("replace, after two versions", x.replace(5, 0, 1, 1), 8);
        due("insert", x.insert(5, 0, 0), 9);
        due("removeTop", x.removeTop(5), 10);
        due("the next one", x.length(11), Views.BAD);
        due("length(0) in the end", x.length(0), 0);
    }

    private void mostVersions() {
        checks.about("At most 120 versions (version 0 included) are there");
        FingerSpans x = Views.withVersions(3, 119);
        due("length(118)", x.length(118), 0);
        due("length(119)", x.length(119), Views.BAD);
        due("the 120th version", x.pushBack(3, 4, 4), 119);
        due("length(119)", x.length(119), 4);
        due("a version more", x.pushBack(3, 4, 4), Views.FULL);
        due("length(120)", x.length(120), Views.BAD);
    }

    private void mostEntries() {
        checks.about("a version has at most 40 entries");
        FingerSpans x = new FingerSpans();
        Views.backRun(x, 39);
        due("pushFront", x.length(x.pushFront(39, 0, 0)), 40);
        due("pushBack", x.length(x.pushBack(39, 0, 0)), 40);
        due("insert", x.length(x.insert(39, 0, 0)), 40);
        due("concat", x.length(x.concat(39, 1)), 40);
        for (int v = 40; v <= 43; v++) {
            due("pushFront to " + v, x.pushFront(v, 0, 0), Views.FULL);
            due("pushBack to " + v, x.pushBack(v, 0, 0), Views.FULL);
            due("insert into " + v, x.insert(v, 0, 0), Views.FULL);
            due("concat of " + v, x.concat(v, 1), Views.FULL);
            due("concat to " + v, x.concat(1, v), Views.FULL);
        }
    }

    /** LANGUAGE.md, rule 8: the calls that would make a fifth DEEP tree are the ones refused here. */
    private void deepest() {
        checks.about("a version has at most 40 entries, so that four DEEP trees are the most");
        FingerSpans x = new FingerSpans();
        int v = Views.backRun(x, 2);
        String[] shapes = {"1-1 1", "1-1 2-1 0", "1-1 2-1 1-1 0", "1-1 2-1 1-1 1-1 0"};
        for (String shape : shapes) {
            v = x.concat(v, v);
            shape(x.length(v) + " entries", x, v, shape);
        }
        due("spine of 32 entries", x.spine(v), 8);
        due("64 entries", x.concat(v, v), Views.FULL);
        int most = v;
        for (int length = 33; length <= 40; length++) {
            most = length % 2 == 0 ? x.pushFront(most, 0, 0) : x.pushBack(most, 0, 0);
            due("spine of " + length + " entries", x.spine(most), 8);
        }
        due("41 entries", x.pushFront(most, 0, 0), Views.FULL);
        ranks("32 entries", x, v, "0" + "1111" + "2222" + "33333333" + "33333333" + "2222" + "11" + "0");
    }

    private void newNodes() {
        checks.about("node(..) makes a NEW node of the items named; no rule but these makes nodes, and every other"
                + " item and node that a rule names is the very one of the tree it comes from");
        FingerSpans x = new FingerSpans();
        Views.backRun(x, 8);
        due("made()", x.made(), 1);
        int once = x.pushBack(5, 6, 6);
        due("two nodes of the same items", x.shared(once, 6), 0);
        due("made()", x.made(), 2);
        due("the very node after BACK without node(..)", x.shared(6, 7), 1);
        due("the very node after FRONT without node(..)", x.shared(6, x.pushFront(6, 0, 0)), 1);
        due("the very node in both trees of JOIN", x.shared(6, x.concat(6, once)), 1);
        due("and the other's", x.shared(once, x.concat(6, once)), 1);
        due("the very node after REST", x.shared(6, x.popFront(x.pushFront(6, 0, 0))), 1);
        due("the very node after LEAD", x.shared(6, x.popBack(6)), 1);
        due("a node that was taken apart", x.shared(6, x.popFront(6)), 0);
    }

    // ---- FRONT and BACK

    private void front() {
        FingerSpans x = new FingerSpans();
        Views.frontRun(x, 21);
        checks.about("FRONT .. t EMPTY: SINGLE(x)");
        shape("1", x, 1, "1");
        lows("1", x, 1, "21");
        checks.about("FRONT .. t SINGLE(y): DEEP([x], EMPTY, [y])");
        shape("2", x, 2, "1-1 0");
        lows("2", x, 2, "20 21");
        checks.about("FRONT .. with fewer than four items in l: DEEP([x, then those of l], m, r)");
        shape("3", x, 3, "2-1 0");
        shape("4", x, 4, "3-1 0");
        shape("5", x, 5, "4-1 0");
        lows("5", x, 5, "17 18 19 20 21");
        shape("8, with a middle", x, 8, "4-1 1");
        due("the middle's node", x.shared(6, 8), 1);
        checks.about("FRONT .. With l = [a, b, c, d]: DEEP([x, a], FRONT(node(b, c, d), m), r)");
        shape("6, before EMPTY", x, 6, "2-1 1");
        ranks("6", x, 6, "001110");
        lows("6", x, 6, "16 17 18 19 20 21");
        shape("9, before SINGLE", x, 9, "2-1 1-1 0");
        shape("12, before a digit of one", x, 12, "2-1 2-1 0");
        shape("18, before a digit of three", x, 18, "2-1 4-1 0");
        due("the nodes of 18", x.shared(18, 18), 5);
        shape("21, before a digit of four", x, 21, "2-1 2-1 1");
        ranks("21", x, 21, "001111112222222221110");
        lows("21", x, 21, Views.upTo(21));
        due("the nodes of 18 in 21", x.shared(18, 21), 5);
        due("made()", x.made(), 7);
    }

    private void back() {
        FingerSpans x = new FingerSpans();
        Views.backRun(x, 21);
        checks.about("BACK .. t EMPTY: SINGLE(x)");
        shape("1", x, 1, "1");
        lows("1", x, 1, "1");
        checks.about("BACK .. t SINGLE(y): DEEP([y], EMPTY, [x])");
        shape("2", x, 2, "1-1 0");
        lows("2", x, 2, "1 2");
        checks.about("BACK .. with fewer than four items in r: DEEP(l, m, [those of r, then x])");
        shape("3", x, 3, "1-2 0");
        shape("4", x, 4, "1-3 0");
        shape("5", x, 5, "1-4 0");
        lows("5", x, 5, "1 2 3 4 5");
        shape("8, with a middle", x, 8, "1-4 1");
        due("the middle's node", x.shared(6, 8), 1);
        checks.about("BACK .. With r = [a, b, c, d]: DEEP(l, BACK(m, node(a, b, c)), [d, x])");
        shape("6, behind EMPTY", x, 6, "1-2 1");
        ranks("6", x, 6, "011100");
        lows("6", x, 6, "1 2 3 4 5 6");
        shape("9, behind SINGLE", x, 9, "1-2 1-1 0");
        shape("12, behind a digit of one", x, 12, "1-2 1-2 0");
        shape("18, behind a digit of three", x, 18, "1-2 1-4 0");
        due("the nodes of 18", x.shared(18, 18), 5);
        shape("21, behind a digit of four", x, 21, "1-2 1-2 1");
        ranks("21", x, 21, "011122222222211111100");
        lows("21", x, 21, Views.upTo(21));
        due("the nodes of 18 in 21", x.shared(18, 21), 5);
        due("made()", x.made(), 7);
    }

    // ---- LINE, OPEN, REST and LEAD

    private void line() {
        checks.about("LINE(row), for a row of zero to four items: EMPTY; SINGLE(a); DEEP([a], EMPTY, [b]);"
                + " DEEP([a, b], EMPTY, [c]); DEEP([a, b], EMPTY, [c, d])");
        FingerSpans x = new FingerSpans();
        int v = Views.frontRun(x, 5);
        // The items of the left digit before place p.
        String[] shapes = {"0", "1", "1-1 0", "2-1 0"};
        for (int p = 0; p < shapes.length; p++) {
            int first = x.split(v, p);
            shape("a row of " + p, x, first, shapes[p]);
            lows("a row of " + p, x, first, Views.upTo(p));
        }
        int four = x.popBack(v);
        shape("a row of four", x, four, "2-2 0");
        lows("a row of four", x, four, "1 2 3 4");
        // The same rows, of nodes: the middle without its first one.
        FingerSpans y = new FingerSpans();
        Views.backRun(y, 18);
        shape("no node", y, y.popFront(6), "3-2 0");
        shape("a row of one node", y, y.popFront(9), "3-2 1");
        shape("a row of two nodes", y, y.popFront(12), "3-2 1-1 0");
        shape("a row of three nodes", y, y.popFront(15), "3-2 2-1 0");
        shape("a row of four nodes", y, y.popFront(18), "3-2 2-2 0");
    }

    private void openLeft() {
        FingerSpans x = new FingerSpans();
        Views.backRun(x, 21);
        checks.about("OPEN .. Neither is empty: DEEP(l, m, r)");
        int neither = x.popFront(x.pushFront(6, 0, 0));
        shape("one item left", x, neither, "1-2 1");
        due("the middle's node", x.shared(6, neither), 1);
        checks.about("OPEN .. l is empty: if m is EMPTY, LINE(r)");
        shape("r of one", x, x.popFront(2), "1");
        shape("r of two", x, x.popFront(3), "1-1 0");
        shape("r of three", x, x.popFront(4), "2-1 0");
        shape("r of four", x, x.popFront(5), "2-2 0");
        lows("r of four", x, x.popFront(5), "2 3 4 5");
        checks.about("OPEN .. otherwise the first item of m is a node, and it is DEEP(the items of that node, REST(m), r)");
        int made = x.made();
        shape("m SINGLE", x, x.popFront(6), "3-2 0");
        int deep = x.popFront(9);
        shape("m DEEP", x, deep, "3-2 1");
        lows("m DEEP", x, deep, "2 3 4 5 6 7 8 9");
        due("the node that stays", x.shared(9, deep), 1);
        int twice = x.popFront(21);
        shape("m whose left digit is filled the same way", x, twice, "3-2 3-2 0");
        due("the nodes that stay, of 7", x.shared(21, twice), 5);
        due("made()", x.made(), made);
        shape("a node of two", x, x.popFront(x.concat(2, 2)), "2-1 0");
    }

    private void openRight() {
        FingerSpans x = new FingerSpans();
        Views.frontRun(x, 21);
        checks.about("OPEN .. Neither is empty: DEEP(l, m, r)");
        int neither = x.popBack(x.pushBack(6, 0, 0));
        shape("one item left", x, neither, "2-1 1");
        due("the middle's node", x.shared(6, neither), 1);
        checks.about("OPEN .. r is empty: if m is EMPTY, LINE(l)");
        shape("l of one", x, x.popBack(2), "1");
        shape("l of two", x, x.popBack(3), "1-1 0");
        shape("l of three", x, x.popBack(4), "2-1 0");
        shape("l of four", x, x.popBack(5), "2-2 0");
        lows("l of four", x, x.popBack(5), "17 18 19 20");
        checks.about("OPEN .. otherwise, with the last item of m, DEEP(l, LEAD(m), the items of that node)");
        int made = x.made();
        shape("m SINGLE", x, x.popBack(6), "2-3 0");
        int deep = x.popBack(9);
        shape("m DEEP", x, deep, "2-3 1");
        lows("m DEEP", x, deep, "13 14 15 16 17 18 19 20");
        due("the node that stays", x.shared(9, deep), 1);
        int twice = x.popBack(21);
        shape("m whose right digit is filled the same way", x, twice, "2-3 2-3 0");
        due("the nodes that stay, of 7", x.shared(21, twice), 5);
        due("made()", x.made(), made);
        shape("a node of two", x, x.popBack(x.concat(2, 2)), "1-2 0");
    }

    private void rest() {
        FingerSpans x = new FingerSpans();
        int v = Views.backRun(x, 21);
        checks.about("REST .. t SINGLE: EMPTY");
        shape("SINGLE", x, x.popFront(1), "0");
        due("SINGLE: its entries", x.length(x.popFront(1)), 0);
        shape("a middle that is SINGLE", x, x.popFront(6), "3-2 0");
        checks.about("REST(t), for t not EMPTY, is t without its first item (the first of l, or x)");
        for (int first = 2; first <= 21; first++) {
            v = x.popFront(v);
            due("length from " + first, x.length(v), 22 - first);
            due("low from " + first, x.low(v, 0), first);
            due("the last from " + first, x.low(v, 21 - first), 21);
        }
        shape("the last one", x, x.popFront(v), "0");
    }

    private void lead() {
        FingerSpans x = new FingerSpans();
        int v = Views.frontRun(x, 21);
        checks.about("LEAD .. t SINGLE: EMPTY");
        shape("SINGLE", x, x.popBack(1), "0");
        due("SINGLE: its entries", x.length(x.popBack(1)), 0);
        shape("a middle that is SINGLE", x, x.popBack(6), "2-3 0");
        checks.about("LEAD(t) is t without its last item");
        for (int last = 20; last >= 1; last--) {
            v = x.popBack(v);
            due("length to " + last, x.length(v), last);
            due("low to " + last, x.low(v, last - 1), last);
            due("the first to " + last, x.low(v, 0), 1);
        }
        shape("the last one", x, x.popBack(v), "0");
    }

    // ---- JOIN and GROUPS

    private void joinEmpty() {
        FingerSpans x = new FingerSpans();
        Views.backRun(x, 9);
        int made = x.made();
        checks.about("JOIN .. t EMPTY: the items of the row are put before u by FRONT, the last one first");
        shape("no row, u EMPTY", x, x.concat(0, 0), "0");
        shape("no row, u SINGLE", x, x.concat(0, 1), "1");
        shape("no row, u DEEP", x, x.concat(0, 9), "1-2 1-1 0");
        due("no row: the very tree", x.shared(9, x.concat(0, 9)), 2);
        due("no row: made()", x.made(), made);
        // 1-3 0 and 1-2 1-1 0: two nodes before the middle 1-1 of the second.
        int two = x.concat(4, 9);
        shape("two nodes before DEEP", x, two, "1-2 3-1 0");
        lows("two nodes before DEEP", x, two, "1 2 3 4 1 2 3 4 5 6 7 8 9");
        checks.about("JOIN .. u EMPTY: the items of the row are put behind t by BACK, the first one first");
        made = x.made();
        shape("no row, t SINGLE", x, x.concat(1, 0), "1");
        shape("no row, t DEEP", x, x.concat(9, 0), "1-2 1-1 0");
        due("no row: the very tree", x.shared(9, x.concat(9, 0)), 2);
        due("no row: made()", x.made(), made);
        // 1-2 1-1 0 and 2-2 0: GROUPS of 2 + 2 are two nodes behind the middle 1-1 of the first.
        int square = x.popFront(5);
        int behind = x.concat(9, square);
        shape("two nodes behind DEEP", x, behind, "1-2 1-3 0");
        lows("two nodes behind DEEP", x, behind, "1 2 3 4 5 6 7 8 9 2 3 4 5");
    }

    private void joinSingle() {
        FingerSpans x = new FingerSpans();
        Views.backRun(x, 9);
        checks.about("JOIN .. t SINGLE(x): as if t were EMPTY, and then x by FRONT");
        shape("SINGLE before DEEP", x, x.concat(1, 9), "2-2 1-1 0");
        int full = x.pushFront(x.pushFront(x.pushFront(9, 0, 0), 0, 0), 0, 0);
        int made = x.made();
        shape("SINGLE before a digit of four", x, x.concat(1, full), "2-2 2-1 0");
        due("made()", x.made(), made + 1);
        // The middles: SINGLE(n) and 1-1, and one node between them.
        shape("a middle SINGLE before DEEP", x, x.concat(6, 9), "1-2 3-1 0");
        lows("a middle SINGLE before DEEP", x, x.concat(6, 9), "1 2 3 4 5 6 1 2 3 4 5 6 7 8 9");
        checks.about("JOIN .. u SINGLE(x): as if u were EMPTY, and then x by BACK");
        shape("SINGLE behind DEEP", x, x.concat(9, 1), "1-3 1-1 0");
        made = x.made();
        shape("SINGLE behind a digit of four", x, x.concat(8, 1), "1-2 1-1 0");
        due("made()", x.made(), made + 1);
        shape("a middle SINGLE behind DEEP", x, x.concat(9, 6), "1-2 1-3 0");
        lows("a middle SINGLE behind DEEP", x, x.concat(9, 6), "1 2 3 4 5 6 7 8 9 1 2 3 4 5 6");
    }

    private void joinInOrder() {
        checks.about("JOIN .. These cases are tried in this order");
        FingerSpans x = new FingerSpans();
        Views.backRun(x, 7);
        int front4 = x.pushFront(x.pushFront(x.pushFront(1, 0, 0), 0, 0), 0, 0);
        shape("3-1", x, front4, "3-1 0");
        // The middles of each pair, with the row between them.
        shape("EMPTY, three nodes, EMPTY: by FRONT", x, x.concat(4, x.pushFront(front4, 0, 0)), "1-1 2-1 0");
        shape("EMPTY, two nodes, SINGLE: by FRONT", x, x.concat(4, 6), "1-2 2-1 0");
        shape("SINGLE, two nodes, EMPTY: by BACK", x, x.concat(7, 2), "1-1 1-2 0");
        shape("SINGLE, a node, SINGLE: by FRONT", x, x.concat(6, 6), "1-2 2-1 0");
        shape("SINGLE, two nodes, SINGLE: by FRONT", x, x.concat(7, 6), "1-2 3-1 0");
        shape("SINGLE before SINGLE", x, x.concat(1, 1), "1-1 0");
        FingerSpans y = new FingerSpans();
        y.pushBack(0, 1, 1);
        y.pushBack(0, 2, 2);
        lows("SINGLE before SINGLE", y, y.concat(1, 2), "1 2");
    }

    private void joinDeep() {
        checks.about("JOIN .. Otherwise .. DEEP(l, JOIN(m, GROUPS(those of r, those of the row, those of l2), m2), r2)");
        FingerSpans x = new FingerSpans();
        Views.backRun(x, 9);
        int made = x.made();
        // 1-2 1-1 0 twice: GROUPS(2 + 1) is a node g; the middles [n] EMPTY [o] give GROUPS(o, g, n),
        // one node of rank 2, between two EMPTY trees.
        int twice = x.concat(9, 9);
        shape("9 and 9", x, twice, "1-2 1-1 1");
        ranks("9 and 9", x, twice, "011122222222211100");
        lows("9 and 9", x, twice, "1 2 3 4 5 6 7 8 9 1 2 3 4 5 6 7 8 9");
        due("made()", x.made(), made + 2);
        due("the different nodes", x.shared(twice, twice), 4);
        due("those of the source", x.shared(9, twice), 2);
    }

    private void groups() {
        checks.about("GROUPS of two or three items is a row of one node of them");
        groups(1, 1, "1-1 1", "2");
        groups(1, 2, "1-1 1", "3");
        groups(2, 1, "1-1 1", "3");
        checks.about("GROUPS .. of four, two nodes of two");
        groups(2, 2, "1-1 1-1 0", "2 2");
        groups(3, 1, "1-1 1-1 0", "2 2");
        groups(1, 3, "1-1 1-1 0", "2 2");
        checks.about("GROUPS .. of more, a node of the first three, and then GROUPS of the others");
        groups(2, 3, "1-1 1-1 0", "3 2");
        groups(4, 1, "1-1 1-1 0", "3 2");
        groups(3, 3, "1-1 1-1 0", "3 3");
        groups(3, 4, "1-1 2-1 0", "3 2 2");
        groups(4, 3, "1-1 2-1 0", "3 2 2");
        groups(4, 4, "1-1 2-1 0", "3 3 2");
    }

    /** Joins a tree 1-r and a tree l2-1: the shape, and the sizes of the nodes that are made. */
    private void groups(int r, int l2, String shape, String sizes) {
        FingerSpans x = new FingerSpans();
        int t = Views.backRun(x, r + 1);
        int u = 0;
        for (int i = 0; i <= l2; i++) {
            u = x.pushFront(u, i, i);
        }
        int v = x.concat(t, u);
        shape(r + " and " + l2, x, v, shape);
        due("made() for " + r + " and " + l2, x.made(), sizes.split(" ").length);
        checks.due("the sizes for " + r + " and " + l2, nodeSizes(x, v, 0, x.made()), sizes);
    }

    /**
     * The sizes of the first nodes of the middle of the tree at level, whose left digit is one item:
     * as often as that digit is used up, it becomes the items of the next node.
     */
    private static String nodeSizes(FingerSpans x, int v, int level, int nodes) {
        StringBuilder sizes = new StringBuilder();
        int w = v;
        int found = 0;
        for (int pops = 0; pops < 40 && found < nodes; pops++) {
            int before = x.digit(w, level, false);
            w = x.popFront(w);
            int after = x.digit(w, level, false);
            if (after > before) {
                sizes.append(found == 0 ? "" : " ").append(after);
                found++;
            }
        }
        return sizes.toString();
    }

    private void groupsOfMany() {
        checks.about("JOIN(t, row, u), for a row of any number of items");
        // 18 to 20 entries are 1-2 1-4 0 to 1-4 1-4 0 from the back, 2-1 4-1 0 to 4-1 4-1 0 from the front.
        // GROUPS(2 + 1) is a row of one node, and then GROUPS(4 + 1 + 4).
        many(18, 18, 1, "1-1 1-1 2-1 0", 1, "3 3 3");
        // GROUPS(2 + 2) is a row of two nodes, and then GROUPS(4 + 2 + 4).
        many(18, 18, 0, "1-1 1-1 3-1 0", 2, "3 3 2 2");
        // GROUPS(3 + 4) and GROUPS(4 + 4) are rows of three nodes, and then GROUPS(4 + 3 + 4).
        many(19, 20, 0, "1-1 1-1 3-1 0", 3, "3 3 3 2");
        many(20, 20, 0, "1-1 1-1 3-1 0", 3, "3 3 3 2");
    }

    /** Joins a tree pushed from the back and one from the front, without its first items if popped. */
    private void many(int back, int front, int popped, String shape, int row, String sizes) {
        FingerSpans x = new FingerSpans();
        int t = Views.backRun(x, back);
        int u = Views.frontRun(x, front);
        for (int i = 0; i < popped; i++) {
            u = x.popFront(u);
        }
        int made = x.made();
        int v = x.concat(t, u);
        String which = back + " and " + (front - popped);
        shape(which, x, v, shape);
        due("the nodes made of " + which, x.made(), made + row + sizes.split(" ").length);
        checks.due("the sizes of " + which, nodeSizes(x, v, 1, sizes.split(" ").length), sizes);
        checks.due("the entries of " + which, Views.lows(x, v), Views.lows(x, t) + " " + Views.lows(x, u));
    }

    // ---- CUT and HALVES

    private void cutSingle() {
        checks.about("CUT .. t SINGLE(x): EMPTY, x, EMPTY");
        FingerSpans x = new FingerSpans();
        x.pushBack(0, 5, 6);
        shape("what is left", x, x.removeTop(1), "0");
        split(x, 1, 0, "0", "1");
    }

    private void cutInDigits() {
        checks.about("CUT .. when the item x lies in l: LINE(those of l before x), x, OPEN(those of l after x, m, r)");
        FingerSpans x = new FingerSpans();
        int v = Views.backRun(x, 5);
        for (int i = 0; i < 3; i++) {
            v = x.pushFront(v, -i, 0);
        }
        shape("the source", x, v, "4-4 0");
        split(x, v, 0, "0", "4-4 0");
        split(x, v, 1, "1", "3-4 0");
        split(x, v, 2, "1-1 0", "2-4 0");
        split(x, v, 3, "2-1 0", "3-2 0");
        checks.about("CUT .. When it lies in r: OPEN(l, m, those of r before x), x, LINE(those of r after x)");
        split(x, v, 4, "2-2 0", "3-1 0");
        split(x, v, 5, "4-1 0", "2-1 0");
        split(x, v, 6, "4-2 0", "1-1 0");
        split(x, v, 7, "4-3 0", "1");
    }

    private void cutInMiddle() {
        FingerSpans x = new FingerSpans();
        int v = Views.backRun(x, 9);
        checks.about("CUT .. when the item x lies in l .. OPEN(those of l after x, m, r)");
        split(x, v, 0, "0", "4-2 1");
        checks.about("CUT .. When the entry lies in m: .. OPEN(l, m1, those of the node before x), x,"
                + " OPEN(those of the node after x, m2, r)");
        // The middle is [2, 3, 4] and [5, 6, 7], each at its first, second and last item.
        split(x, v, 1, "1", "3-2 1");
        split(x, v, 2, "1-1 0", "2-2 1");
        due("the node that stays", x.shared(v, v + 6), 1);
        split(x, v, 3, "1-2 0", "4-2 0");
        split(x, v, 4, "1-3 0", "3-2 0");
        split(x, v, 5, "1-1 1", "2-2 0");
        split(x, v, 6, "1-2 1", "2-1 0");
        checks.about("CUT .. When it lies in r: OPEN(l, m, those of r before x)");
        split(x, v, 7, "1-3 1", "1-1 0");
        split(x, v, 8, "1-1 1-1 0", "1");
    }

    private void cutInNodes() {
        checks.about("CUT .. x is the item of that node that holds the entry");
        FingerSpans x = new FingerSpans();
        int v = Views.backRun(x, 21);
        // 1 | [2 3 4] | [[5 6 7] [8 9 10] [11 12 13]] | [14 15 16] [17 18 19] | 20 21
        split(x, v, 4, "1-3 0", "3-2 2-2 0");
        split(x, v, 8, "1-1 1-1 0", "2-2 1-2 0");
        split(x, v, 12, "1-2 1-2 0", "4-2 1");
        int two = x.concat(2, 2);
        split(x, two, 1, "1", "2-1 0");
        split(x, two, 2, "1-1 0", "1-1 0");
    }

    private void cutEverywhere() {
        checks.about("CUT(t, p), for t not EMPTY and p from 0 to (number of its entries) - 1, .. the item is the one of"
                + " t's rank that holds the entry number p (from 0) of t");
        for (int p = 0; p < 40; p++) {
            FingerSpans x = new FingerSpans();
            int v = x.replace(Views.backRun(x, 40), p, p + 1, 99);
            String others = (" " + Views.upTo(40) + " ").replace(" " + (p + 1) + " ", " ").trim();
            lows("40 entries without place " + p, x, x.removeTop(v), others);
            int t = x.split(v, p);
            due("the first tree at " + p, x.length(t), p);
            due("the entry cut out at " + p, x.high(t + 1, 0), 99);
            lows("both trees at " + p, x, x.concat(t, t + 1), Views.upTo(40));
        }
    }

    private void halves() {
        checks.about("HALVES .. when p is that number, t and EMPTY");
        FingerSpans x = new FingerSpans();
        int v = Views.backRun(x, 9);
        split(x, 0, 0, "0", "0");
        split(x, 1, 1, "1", "0");
        split(x, v, 9, "1-2 1-1 0", "0");
        due("the very tree", x.shared(v, x.split(v, 9)), 2);
        checks.about("HALVES(t, p), for p from 0 to the number of t's entries: .. otherwise, with CUT(t, p) = t1, x, t2:"
                + " t1 and FRONT(x, t2)");
        split(x, v, 0, "0", "4-2 1");
        split(x, v, 8, "1-1 1-1 0", "1");
        split(x, 1, 0, "0", "1");
        split(x, 2, 1, "1", "1");
    }
}

import java.util.function.ToLongFunction;

/**
 * Each sentence of the document on what is refused, at its boundary: the last call that is refused
 * and the first that is not. Every refused call is also tested to change nothing: all that is seen
 * after it is compared with an object on which it was not made.
 */
public final class RefusalsTest {
    private static final int BAD = Views.BAD;
    private static final int FULL = Views.FULL;

    /** What a test begins with: versions of 0 to longest entries, and then copies of version 0. */
    private record State(int longest, int versions) {
        FingerSpans make() {
            return Views.withVersions(longest, versions);
        }

        @Override
        public String toString() {
            return versions + " versions of up to " + longest + " entries";
        }
    }

    private static final State FEW = new State(6, 7);
    private static final State FORTY = new State(40, 41);
    private static final State AT_118 = new State(6, 118);
    private static final State AT_119 = new State(6, 119);
    private static final State AT_120 = new State(6, 120);
    private static final State FORTY_AT_120 = new State(40, 120);
    private static final State[] STATES = {new State(0, 1), FEW, FORTY, AT_118, AT_119, AT_120, FORTY_AT_120};

    private static final int[][] NO_SPANS = {
        {1, 0}, {0, -1}, {Views.MOST, Views.MOST - 1}, {Views.LEAST + 1, Views.LEAST}, {Views.MOST, Views.LEAST},
    };

    private interface OfVersion {
        long of(FingerSpans x, int v);
    }

    private interface OfSpan {
        int of(FingerSpans x, int v, int low, int high);
    }

    private interface OfPlace {
        int of(FingerSpans x, int v, int p);
    }

    private final Checks checks = new Checks();

    public static void main(String[] args) {
        new RefusalsTest().run();
    }

    private void run() {
        noVersion();
        adding("pushFront", FingerSpans::pushFront);
        adding("pushBack", FingerSpans::pushBack);
        adding("insert", FingerSpans::insert);
        taking("popFront", FingerSpans::popFront);
        taking("popBack", FingerSpans::popBack);
        taking("removeTop", FingerSpans::removeTop);
        concatBad();
        concatFull();
        splitBad();
        splitFull();
        replaceBad();
        replaceFull();
        noPlace("low", FingerSpans::low, 0);
        noPlace("high", FingerSpans::high, 0);
        noPlace("rank", FingerSpans::rank, BAD);
        noKind();
        meetingNone();
        noLevel();
        askedOnly();
        checks.finish();
    }

    // ---- helpers

    private void changesNothing(State state, String call, ToLongFunction<FingerSpans> asked, long due) {
        FingerSpans x = state.make();
        String where = call + " with " + state;
        checks.due(where, asked.applyAsLong(x), due);
        checks.due("A call that is refused changes nothing: what is seen after " + where, seen(x, state),
                seen(state.make(), state));
    }

    private void accepted(State state, String call, ToLongFunction<FingerSpans> accepted, long due) {
        checks.due(call + " with " + state, accepted.applyAsLong(state.make()), due);
    }

    /** Keeps under the 512 calls of an object, those that made the state among them. */
    private static String seen(FingerSpans x, State state) {
        StringBuilder text = new StringBuilder();
        text.append("made ").append(x.made()).append(", lengths");
        for (int v = 0; v <= 120; v++) {
            text.append(' ').append(x.length(v));
        }
        text.append(", longest ").append(Views.whole(x, state.longest()));
        // The next number and the next nodes.
        text.append(", next ").append(x.pushBack(Math.min(5, state.longest()), 9, 9));
        text.append(", made ").append(x.made());
        return text.toString();
    }

    // ---- no version

    private void noVersion() {
        checks.about("A call that names a version number that is none is BAD");
        noVersion("pushFront", (x, v) -> x.pushFront(v, 0, 0), BAD);
        noVersion("pushBack", (x, v) -> x.pushBack(v, 0, 0), BAD);
        noVersion("popFront", (x, v) -> x.popFront(v), BAD);
        noVersion("popBack", (x, v) -> x.popBack(v), BAD);
        noVersion("concat, first", (x, v) -> x.concat(v, 0), BAD);
        noVersion("concat, second", (x, v) -> x.concat(0, v), BAD);
        noVersion("concat, both", (x, v) -> x.concat(v, v), BAD);
        noVersion("split", (x, v) -> x.split(v, 0), BAD);
        noVersion("replace", (x, v) -> x.replace(v, 0, 0, 0), BAD);
        noVersion("insert", (x, v) -> x.insert(v, 0, 0), BAD);
        noVersion("removeTop", (x, v) -> x.removeTop(v), BAD);
        noVersion("length", (x, v) -> x.length(v), BAD);
        noVersion("search", (x, v) -> x.search(v, 0, 0), BAD);
        noVersion("meeting", (x, v) -> x.meeting(v, 0, Views.LEAST, Views.MOST), BAD);
        noVersion("spine", (x, v) -> x.spine(v), BAD);
        noVersion("digit, left", (x, v) -> x.digit(v, 0, false), BAD);
        noVersion("digit, right", (x, v) -> x.digit(v, 0, true), BAD);
        noVersion("digit, no level", (x, v) -> x.digit(v, -1, true), BAD);
        noVersion("rank", (x, v) -> x.rank(v, 0), BAD);
        noVersion("shared, first", (x, v) -> x.shared(v, 0), BAD);
        noVersion("shared, second", (x, v) -> x.shared(0, v), BAD);
        noVersion("shared, both", (x, v) -> x.shared(v, v), BAD);
        checks.about("promises 12 to 14: 0 when v is no version");
        noVersion("low", (x, v) -> x.low(v, 0), 0);
        noVersion("high", (x, v) -> x.high(v, 0), 0);
        for (int k = 0; k < 4; k++) {
            int kind = k;
            noVersion("measure of kind " + kind, (x, v) -> x.measure(v, kind), 0);
        }
    }

    private void noVersion(String name, OfVersion call, long due) {
        for (State state : STATES) {
            int next = state.versions();
            int[] none = {-1, -2, Views.LEAST, next, next + 1, 120, 121, Views.MOST};
            for (int v : none) {
                changesNothing(state, name + " of " + v, x -> call.of(x, v), due);
            }
        }
    }

    // ---- promises 2, 3 and 9

    private void adding(String name, OfSpan call) {
        for (int[] span : NO_SPANS) {
            String wrong = name + " of " + span[0] + " .. " + span[1];
            checks.about("BAD when v is no version or low > high");
            changesNothing(FEW, wrong + " to 0", x -> call.of(x, 0, span[0], span[1]), BAD);
            changesNothing(FEW, wrong + " to 6", x -> call.of(x, 6, span[0], span[1]), BAD);
            checks.about("BAD is tested before FULL");
            changesNothing(AT_120, wrong, x -> call.of(x, 6, span[0], span[1]), BAD);
            changesNothing(FORTY, wrong, x -> call.of(x, 40, span[0], span[1]), BAD);
            changesNothing(FORTY_AT_120, wrong, x -> call.of(x, 40, span[0], span[1]), BAD);
        }
        checks.about("FULL when 120 versions are there or v has 40 entries");
        changesNothing(AT_120, name + " to 0", x -> call.of(x, 0, 7, 7), FULL);
        changesNothing(AT_120, name + " to 5", x -> call.of(x, 5, 7, 7), FULL);
        changesNothing(AT_120, name + " to 119", x -> call.of(x, 119, 7, 7), FULL);
        changesNothing(FORTY, name + " to 40 entries", x -> call.of(x, 40, 7, 7), FULL);
        changesNothing(FORTY_AT_120, name + " to 40 entries", x -> call.of(x, 40, 7, 7), FULL);
        accepted(AT_119, name + " as the last version", x -> call.of(x, 5, 7, 7), 119);
        accepted(FORTY, name + " to 39 entries", x -> call.of(x, 39, 7, 7), 41);
        accepted(FORTY, name + " to 39 entries: length", x -> x.length(call.of(x, 39, 7, 7)), 40);
        accepted(FEW, name + " of low == high", x -> call.of(x, 0, -4, -4), 7);
    }

    // ---- promises 4, 5 and 10

    private void taking(String name, OfVersion call) {
        checks.about("BAD when v is no version or EMPTY");
        changesNothing(FEW, name + " of 0", x -> call.of(x, 0), BAD);
        changesNothing(AT_119, name + " of 118, EMPTY", x -> call.of(x, 118), BAD);
        FingerSpans y = FEW.make();
        int emptied = (int) call.of(y, 1);
        checks.due(name + " of SINGLE", emptied, 7);
        checks.due(name + " of what that leaves", call.of(y, emptied), BAD);
        checks.about("BAD is tested before FULL");
        changesNothing(AT_120, name + " of 0", x -> call.of(x, 0), BAD);
        changesNothing(AT_120, name + " of 119, EMPTY", x -> call.of(x, 119), BAD);
        checks.about("FULL when 120 versions are there");
        changesNothing(AT_120, name + " of SINGLE", x -> call.of(x, 1), FULL);
        changesNothing(AT_120, name + " of 6", x -> call.of(x, 6), FULL);
        changesNothing(FORTY_AT_120, name + " of 40 entries", x -> call.of(x, 40), FULL);
        accepted(AT_119, name + " as the last version", x -> call.of(x, 6), 119);
        accepted(FORTY, name + " of 40 entries", x -> call.of(x, 40), 41);
    }

    // ---- promise 6

    private void concatBad() {
        checks.about("BAD when v or w is no version .. BAD is tested before FULL");
        changesNothing(FORTY, "concat(41, 40)", x -> x.concat(41, 40), BAD);
        changesNothing(FORTY, "concat(40, 41)", x -> x.concat(40, 41), BAD);
        changesNothing(FORTY, "concat(40, -1)", x -> x.concat(40, -1), BAD);
        changesNothing(FORTY_AT_120, "concat(120, 40)", x -> x.concat(120, 40), BAD);
        changesNothing(FORTY_AT_120, "concat(40, 120)", x -> x.concat(40, 120), BAD);
        changesNothing(FORTY_AT_120, "concat(40, -1)", x -> x.concat(40, -1), BAD);
    }

    private void concatFull() {
        checks.about("FULL when 120 versions are there or v and w together have more than 40 entries");
        for (int v = 1; v <= 40; v++) {
            int first = v;
            int second = 41 - v;
            changesNothing(FORTY, "concat of " + v + " and " + second, x -> x.concat(first, second), FULL);
            accepted(FORTY, "concat of " + (v - 1) + " and " + second, x -> x.concat(first - 1, second), 41);
        }
        changesNothing(FORTY, "concat(40, 40)", x -> x.concat(40, 40), FULL);
        changesNothing(FORTY, "concat(21, 21)", x -> x.concat(21, 21), FULL);
        accepted(FORTY, "concat(20, 20), v may be w", x -> x.length(x.concat(20, 20)), 40);
        accepted(FORTY, "concat(40, 0)", x -> x.length(x.concat(40, 0)), 40);
        accepted(FORTY, "concat(0, 40)", x -> x.length(x.concat(0, 40)), 40);
        changesNothing(AT_120, "concat(0, 0)", x -> x.concat(0, 0), FULL);
        changesNothing(AT_120, "concat(6, 6)", x -> x.concat(6, 6), FULL);
        changesNothing(FORTY_AT_120, "concat(40, 40)", x -> x.concat(40, 40), FULL);
        accepted(AT_119, "concat as the last version", x -> x.concat(6, 6), 119);
    }

    // ---- promise 7

    private void splitBad() {
        int[] before = {-1, -2, Views.LEAST};
        int[] behind = {1, 2, Views.MOST};
        for (int v : new int[] {0, 1, 6}) {
            for (int i = 0; i < before.length; i++) {
                int negative = before[i];
                int beyond = behind[i] == Views.MOST ? Views.MOST : v + behind[i];
                checks.about("BAD when v is no version or p is not 0 .. (number of its entries)");
                changesNothing(FEW, "split(" + v + ", " + negative + ")", x -> x.split(v, negative), BAD);
                changesNothing(FEW, "split(" + v + ", " + beyond + ")", x -> x.split(v, beyond), BAD);
                checks.about("BAD is tested before FULL");
                changesNothing(AT_119, "split(" + v + ", " + negative + ")", x -> x.split(v, negative), BAD);
                changesNothing(AT_120, "split(" + v + ", " + beyond + ")", x -> x.split(v, beyond), BAD);
            }
            checks.about("p is .. 0 .. (number of its entries)");
            accepted(FEW, "split(" + v + ", 0)", x -> x.split(v, 0), 7);
            accepted(FEW, "split(" + v + ", " + v + ")", x -> x.split(v, v), 7);
        }
        accepted(FORTY, "split(40, 40)", x -> x.split(40, 40), 41);
        changesNothing(FORTY, "split(40, 41)", x -> x.split(40, 41), BAD);
    }

    private void splitFull() {
        checks.about("FULL when more than 118 versions are there");
        for (int p = 0; p <= 6; p += 3) {
            int at = p;
            changesNothing(AT_119, "split(6, " + p + ")", x -> x.split(6, at), FULL);
            changesNothing(AT_120, "split(6, " + p + ")", x -> x.split(6, at), FULL);
            accepted(AT_118, "split(6, " + p + ")", x -> x.split(6, at), 118);
        }
        changesNothing(AT_119, "split(0, 0)", x -> x.split(0, 0), FULL);
        FingerSpans y = AT_118.make();
        y.split(6, 2);
        checks.due("length(118)", y.length(118), 2);
        checks.due("length(119)", y.length(119), 4);
        checks.due("length(120)", y.length(120), BAD);
    }

    // ---- promise 8

    private void replaceBad() {
        for (int p : new int[] {-1, 6, 7, Views.MOST, Views.LEAST}) {
            checks.about("BAD when v is no version, p is not a place of v");
            changesNothing(FEW, "replace(6, " + p + ", 0, 0)", x -> x.replace(6, p, 0, 0), BAD);
            checks.about("BAD is tested before FULL");
            changesNothing(AT_120, "replace(6, " + p + ", 0, 0)", x -> x.replace(6, p, 0, 0), BAD);
        }
        checks.about("p is not a place of v");
        changesNothing(FEW, "replace(0, 0, 0, 0)", x -> x.replace(0, 0, 0, 0), BAD);
        changesNothing(FEW, "replace(1, 1, 0, 0)", x -> x.replace(1, 1, 0, 0), BAD);
        changesNothing(FORTY, "replace(40, 40, 0, 0)", x -> x.replace(40, 40, 0, 0), BAD);
        for (int[] span : NO_SPANS) {
            for (int p = 0; p < 6; p++) {
                int at = p;
                String wrong = "replace(6, " + p + ", " + span[0] + ", " + span[1] + ")";
                checks.about("BAD when .. low > high");
                changesNothing(FEW, wrong, x -> x.replace(6, at, span[0], span[1]), BAD);
                checks.about("BAD is tested before FULL");
                changesNothing(AT_120, wrong, x -> x.replace(6, at, span[0], span[1]), BAD);
            }
        }
    }

    private void replaceFull() {
        checks.about("FULL when 120 versions are there");
        for (int p = 0; p < 6; p++) {
            int at = p;
            changesNothing(AT_120, "replace(6, " + p + ", 0, 0)", x -> x.replace(6, at, 0, 0), FULL);
            accepted(AT_119, "replace(6, " + p + ", 0, 0)", x -> x.replace(6, at, 0, 0), 119);
        }
        changesNothing(FORTY_AT_120, "replace(40, 39, 0, 0)", x -> x.replace(40, 39, 0, 0), FULL);
        accepted(FORTY, "replace(40, 0, 0, 0)", x -> x.replace(40, 0, 0, 0), 41);
        accepted(FORTY, "replace(40, 39, 0, 0)", x -> x.replace(40, 39, 0, 0), 41);
    }

    // ---- promises 11 to 21

    private void noPlace(String name, OfPlace call, long due) {
        checks.about(due + " when v is no version or p is not a place of v");
        for (int v : new int[] {0, 1, 2, 6, 40}) {
            for (int p : new int[] {-1, -2, Views.LEAST, v, v + 1, Views.MOST}) {
                changesNothing(FORTY, name + "(" + v + ", " + p + ")", x -> call.of(x, v, p), due);
            }
        }
    }

    private void noKind() {
        for (int kind : new int[] {-1, 4, 5, Views.LEAST, Views.MOST}) {
            checks.about("promise 14: 0 when v is no version or EMPTY, or kind is not 0 .. 3");
            changesNothing(FORTY, "measure(40, " + kind + ")", x -> x.measure(40, kind), 0);
            changesNothing(FORTY, "measure(0, " + kind + ")", x -> x.measure(0, kind), 0);
            checks.about("promise 15: BAD when v is no version or kind is not 0 .. 3");
            changesNothing(FORTY, "search(40, " + kind + ", 0)", x -> x.search(40, kind, 0), BAD);
            changesNothing(FORTY, "search(0, " + kind + ", 0)", x -> x.search(0, kind, 0), BAD);
        }
        checks.about("promise 14: 0 when v is no version or EMPTY");
        for (int k = 0; k <= 3; k++) {
            int kind = k;
            changesNothing(FEW, "measure(0, " + kind + ")", x -> x.measure(0, kind), 0);
            changesNothing(AT_120, "measure(119, " + kind + ")", x -> x.measure(119, kind), 0);
        }
    }

    private void meetingNone() {
        checks.about("promise 16: BAD when there is none");
        changesNothing(FEW, "meeting(0, 0, ..), EMPTY", x -> x.meeting(0, 0, Views.LEAST, Views.MOST), BAD);
        changesNothing(FEW, "meeting(6, 6, ..)", x -> x.meeting(6, 6, Views.LEAST, Views.MOST), BAD);
        changesNothing(FEW, "meeting(6, the greatest int, ..)", x -> x.meeting(6, Views.MOST, Views.LEAST, Views.MOST), BAD);
        changesNothing(FEW, "meeting(6, 0, 7, ..)", x -> x.meeting(6, 0, 7, Views.MOST), BAD);
        changesNothing(FEW, "meeting(6, 0, .., 0)", x -> x.meeting(6, 0, Views.LEAST, 0), BAD);
        changesNothing(FEW, "meeting(6, 0, 4, 3)", x -> x.meeting(6, 0, 4, 3), BAD);
    }

    private void noLevel() {
        checks.about("promise 18: 0 when there is no tree at that level or it is not DEEP");
        // 6 is 1-2 1: DEEP, and then SINGLE.
        for (int level : new int[] {-1, Views.LEAST, 1, 2, 3, Views.MOST}) {
            changesNothing(FEW, "digit(6, " + level + ", false)", x -> x.digit(6, level, false), 0);
            changesNothing(FEW, "digit(6, " + level + ", true)", x -> x.digit(6, level, true), 0);
        }
        for (int v = 0; v <= 1; v++) {
            int flat = v;
            changesNothing(FEW, "digit(" + v + ", 0, false)", x -> x.digit(flat, 0, false), 0);
            changesNothing(FEW, "digit(" + v + ", 0, true)", x -> x.digit(flat, 0, true), 0);
            changesNothing(FEW, "digit(" + v + ", 1, true)", x -> x.digit(flat, 1, true), 0);
        }
        changesNothing(FEW, "digit(5, 1, true)", x -> x.digit(5, 1, true), 0);
    }

    private void askedOnly() {
        checks.about("promise 21: by the calls that made versions");
        changesNothing(FORTY, "length", x -> x.length(40), 40);
        changesNothing(FORTY, "low", x -> x.low(40, 20), 21);
        changesNothing(FORTY, "high", x -> x.high(40, 20), 21);
        changesNothing(FORTY, "measure", x -> x.measure(40, 3), 40);
        changesNothing(FORTY, "search", x -> x.search(40, 1, 30), 29);
        changesNothing(FORTY, "meeting", x -> x.meeting(40, 3, 20, 30), 19);
        changesNothing(FORTY, "spine", x -> x.spine(40), 6);
        changesNothing(FORTY, "digit", x -> x.digit(40, 1, true), 2);
        changesNothing(FORTY, "rank", x -> x.rank(40, 20), 2);
        changesNothing(FORTY, "shared", x -> x.shared(40, 40), 15);
        changesNothing(FORTY, "made", x -> x.made(), 15);
    }
}

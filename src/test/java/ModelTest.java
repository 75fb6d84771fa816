import java.util.Random;

/** Long mixed runs of calls, every answer compared with that of the model. The seeds are fixed. */
public final class ModelTest {
    private static final int RUNS = 400;
    private static final int CALLS = 512;

    private final Checks checks;
    private final Random random;
    private final FingerSpans x = new FingerSpans();
    private final Model m = new Model();
    private final int wrongInHundred;
    private final int narrow;

    private ModelTest(Checks checks, int seed) {
        this.checks = checks;
        this.random = new Random(seed);
        this.wrongInHundred = seed % 4 == 0 ? 20 : 2;
        this.narrow = seed % 3 == 0 ? 6 : 1000;
    }

    public static void main(String[] args) {
        Checks checks = new Checks();
        for (int seed = 0; seed < RUNS && !checks.anyWrong(); seed++) {
            new ModelTest(checks, seed).run(seed);
        }
        checks.finish();
    }

    private void run(int seed) {
        int profile = seed % 5;
        for (int i = 0; i < CALLS && !checks.anyWrong(); i++) {
            int before = m.count();
            if (random.nextInt(100) < 40) {
                makingCall(profile);
            } else {
                askingCall();
            }
            for (int v = before; v < m.count(); v++) {
                compareVersion(v);
            }
        }
        for (int v = 0; v < m.count() && !checks.anyWrong(); v++) {
            compareVersion(v);
        }
        if (checks.anyWrong()) {
            System.out.println("in the run of seed " + seed);
        }
    }

    private boolean wrongNow() {
        return random.nextInt(100) < wrongInHundred;
    }

    private int version() {
        if (wrongNow()) {
            int[] none = {-1, m.count(), m.count() + 1, 119, 120, Integer.MAX_VALUE, Integer.MIN_VALUE};
            return none[random.nextInt(none.length)];
        }
        int newest = m.count() - 1;
        return random.nextInt(3) == 0 ? random.nextInt(m.count()) : Math.max(0, newest - random.nextInt(4));
    }

    private int place(int v) {
        if (wrongNow()) {
            int[] none = {-1, m.length(v), m.length(v) + 1, Integer.MAX_VALUE, Integer.MIN_VALUE};
            return none[random.nextInt(none.length)];
        }
        return random.nextInt(Math.max(1, m.length(v) + 1));
    }

    private int number() {
        int kind = random.nextInt(40);
        if (kind == 0) {
            return Integer.MAX_VALUE;
        }
        return kind == 1 ? Integer.MIN_VALUE : random.nextInt(2 * narrow) - narrow;
    }

    private void makingCall(int profile) {
        int v = version();
        int a = number();
        int b = number();
        int low = wrongNow() ? Math.max(a, b) : Math.min(a, b);
        int high = low == a ? b : a;
        int p = place(v);
        int w = version();
        String spans = v + ", " + low + ", " + high + ")";
        switch (choice(profile)) {
            case 0: checks.due("pushFront(" + spans, x.pushFront(v, low, high), m.pushFront(v, low, high)); break;
            case 1: checks.due("pushBack(" + spans, x.pushBack(v, low, high), m.pushBack(v, low, high)); break;
            case 2: checks.due("popFront(" + v + ")", x.popFront(v), m.popFront(v)); break;
            case 3: checks.due("popBack(" + v + ")", x.popBack(v), m.popBack(v)); break;
            case 4: checks.due("concat(" + v + ", " + w + ")", x.concat(v, w), m.concat(v, w)); break;
            case 5: checks.due("split(" + v + ", " + p + ")", x.split(v, p), m.split(v, p)); break;
            case 6: checks.due("replace(" + p + " of " + spans, x.replace(v, p, low, high), m.replace(v, p, low, high)); break;
            case 7: checks.due("insert(" + spans, x.insert(v, low, high), m.insert(v, low, high)); break;
            default: checks.due("removeTop(" + v + ")", x.removeTop(v), m.removeTop(v)); break;
        }
    }

    /** Which calls a run is rich in: all alike, front, back, concat and split, insert and removeTop. */
    private int choice(int profile) {
        int[][] rich = {{0, 1, 2, 3, 4, 5, 6, 7, 8}, {0, 0, 0, 4, 3}, {1, 1, 1, 4, 2}, {4, 4, 5, 1, 0, 6}, {7, 7, 7, 8, 4}};
        int[] calls = random.nextInt(5) == 0 ? rich[0] : rich[profile];
        return calls[random.nextInt(calls.length)];
    }

    private void askingCall() {
        int v = version();
        int w = version();
        int p = place(v);
        int kind = wrongNow() ? (random.nextBoolean() ? -1 : 4) : random.nextInt(4);
        long limit = random.nextInt(8) == 0 ? m.measure(v, kind) : random.nextInt(10 * narrow) - narrow;
        int since = number();
        int to = random.nextBoolean() ? since : number();
        switch (random.nextInt(6)) {
            case 0: checks.due("search(" + v + ", " + kind + ", " + limit + ")", x.search(v, kind, limit), m.search(v, kind, limit)); break;
            case 1: checks.due("meeting(" + v + ", " + p + ", " + since + ", " + to + ")", x.meeting(v, p, since, to), m.meeting(v, p, since, to)); break;
            case 2: checks.due("shared(" + v + ", " + w + ")", x.shared(v, w), m.shared(v, w)); break;
            case 3: checks.due("measure(" + v + ", " + kind + ")", x.measure(v, kind), m.measure(v, kind)); break;
            case 4: checks.due("rank(" + v + ", " + p + ")", x.rank(v, p), m.rank(v, p)); break;
            default: checks.due("low(" + v + ", " + p + ")", x.low(v, p), m.low(v, p)); break;
        }
    }

    private void compareVersion(int v) {
        checks.due("length(" + v + ")", x.length(v), m.length(v));
        checks.due("spine(" + v + ")", x.spine(v), m.spine(v));
        checks.due("made()", x.made(), m.made());
        for (int level = -1; level < 6; level++) {
            checks.due("digit(" + v + ", " + level + ", false)", x.digit(v, level, false), m.digit(v, level, false));
            checks.due("digit(" + v + ", " + level + ", true)", x.digit(v, level, true), m.digit(v, level, true));
        }
        for (int p = -1; p <= m.length(v); p++) {
            checks.due("low(" + v + ", " + p + ")", x.low(v, p), m.low(v, p));
            checks.due("high(" + v + ", " + p + ")", x.high(v, p), m.high(v, p));
            checks.due("rank(" + v + ", " + p + ")", x.rank(v, p), m.rank(v, p));
        }
        for (int kind = -1; kind < 5; kind++) {
            checks.due("measure(" + v + ", " + kind + ")", x.measure(v, kind), m.measure(v, kind));
        }
        for (int w = Math.max(0, v - 6); w < m.count(); w += 3) {
            checks.due("shared(" + v + ", " + w + ")", x.shared(v, w), m.shared(v, w));
        }
    }
}

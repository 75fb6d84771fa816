/** Objects to begin a test with, and what they answer, put together as texts. */
final class Views {
    static final int BAD = -1;
    static final int FULL = -2;
    static final int LEAST = Integer.MIN_VALUE;
    static final int MOST = Integer.MAX_VALUE;

    private Views() { }

    /** Pushes (1, 1), (2, 2) .. (n, n) to the back of version 0: version k has k entries. */
    static int backRun(FingerSpans x, int n) {
        int v = 0;
        for (int i = 1; i <= n; i++) {
            v = x.pushBack(v, i, i);
        }
        return v;
    }

    /** Pushes (n, n), (n - 1, n - 1) .. (1, 1) to the front of version 0: version k has k entries. */
    static int frontRun(FingerSpans x, int n) {
        int v = 0;
        for (int i = n; i >= 1; i--) {
            v = x.pushFront(v, i, i);
        }
        return v;
    }

    /** A new object with n + 1 versions, of 0 to n entries, and then copies of version 0. */
    static FingerSpans withVersions(int n, int versions) {
        FingerSpans x = new FingerSpans();
        backRun(x, n);
        for (int count = n + 1; count < versions; count++) {
            x.concat(0, 0);
        }
        return x;
    }

    /** The digits from level 0 down, left and right, and what stands at the end: 0 EMPTY, 1 SINGLE. */
    static String shape(FingerSpans x, int v) {
        StringBuilder text = new StringBuilder();
        int level = 0;
        while (level < 40 && x.digit(v, level, false) > 0) {
            text.append(x.digit(v, level, false)).append('-').append(x.digit(v, level, true)).append(' ');
            level++;
        }
        return text.append(x.spine(v) - 2 * level).toString();
    }

    static String lows(FingerSpans x, int v) {
        StringBuilder text = new StringBuilder();
        int length = x.length(v);
        for (int p = 0; p < length; p++) {
            text.append(p == 0 ? "" : " ").append(x.low(v, p));
        }
        return text.toString();
    }

    static String highs(FingerSpans x, int v) {
        StringBuilder text = new StringBuilder();
        int length = x.length(v);
        for (int p = 0; p < length; p++) {
            text.append(p == 0 ? "" : " ").append(x.high(v, p));
        }
        return text.toString();
    }

    static String ranks(FingerSpans x, int v) {
        StringBuilder text = new StringBuilder();
        int length = x.length(v);
        for (int p = 0; p < length; p++) {
            text.append(x.rank(v, p));
        }
        return text.toString();
    }

    /** All that can be seen of one version by itself. */
    static String whole(FingerSpans x, int v) {
        return shape(x, v) + " | " + lows(x, v) + " | " + highs(x, v) + " | " + ranks(x, v)
                + " | " + x.shared(v, v);
    }

    /** The numbers from 1 to n, as lows tells them. */
    static String upTo(int n) {
        StringBuilder text = new StringBuilder();
        for (int i = 1; i <= n; i++) {
            text.append(i == 1 ? "" : " ").append(i);
        }
        return text.toString();
    }
}

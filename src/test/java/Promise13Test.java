/** Promise 13: triangles. */
public final class Promise13Test extends PromiseTests {
    public static void main(String[] args) {
        new Promise13Test().run();
    }

    private void triangles(String told, int due, RingPlanes x, int... is) {
        StringBuilder call = new StringBuilder(told).append("triangles of");
        for (int number : is) {
            call.append(' ').append(number);
        }
        due(call.toString(), due, x.triangles(is[0], is[1], is[2], is[3], is[4], is[5]));
    }

    /** "INVALID_ARGUMENT if an argument is out of range": each argument alone, at the first number that is not good. */
    void refusesWhatIsOutOfRange() {
        for (int n : SIZES) {
            int[] first = {last(n) + 1, n + 1, n + 1, n + 1, n, n};
            for (int place = 0; place < 6; place++) {
                RingPlanes x = of(n);
                outOfRange(n + ": ", x, place, first[place]);
                outOfRange(n + ": ", x, place, first[place] + 1);
                outOfRange(n + ": ", x, place, 91);
                for (int bad : FAR) {
                    outOfRange(n + ": ", x, place, bad);
                }
            }
        }
    }

    private void outOfRange(String told, RingPlanes x, int place, int bad) {
        int[] row = {0, 0, 1, 2, 0, 1};
        row[place] = bad;
        triangles(told, INVALID, x, row);
    }

    /** "p: number of the point; l: index of a line ..; i: index of a point, 0 to n - 1": the last ones are good. */
    void takesTheLastOfEach() {
        for (int n : new int[] {3, 4, 5, 7, 9}) {
            RingPlanes x = of(n);
            triangles(n + ": ", 1, x, last(n), 0, 1, n, 1, n - 1);
            triangles(n + ": ", 1, x, last(n), 0, 1, n, n - 1, 1);
            triangles(n + ": ", 1, x, last(n), n, 0, 1, n - 1, 1);
            triangles(n + ": ", 1, x, last(n), 1, n, 0, n - 1, 1);
            triangles(n + ": ", 1, x, 0, 0, 1, n, 0, 1);
            triangles(n + ": ", 1, x, 0, n, 1, 0, n - 2, 0);
            triangles(n + ": ", IMPOSSIBLE, x, 0, 0, 1, n, 0, n - 1);
        }
    }

    /** "(All unlike, through p)"; "INVALID_ARGUMENT if .. indexes are the same". */
    void refusesTheSameLines() {
        for (int n : SIZES) {
            RingPlanes x = of(n);
            triangles(n + ": ", INVALID, x, 0, 0, 0, 2, 0, 1);
            triangles(n + ": ", INVALID, x, 0, 0, 2, 0, 0, 1);
            triangles(n + ": ", INVALID, x, 0, 2, 0, 0, 0, 1);
            triangles(n + ": ", INVALID, x, last(n), n, n, n, 0, 1);
        }
    }

    /** The same for the points: i and j; a line and a point may have the same index. */
    void refusesTheSamePoints() {
        for (int n : SIZES) {
            RingPlanes x = of(n);
            for (int i = 0; i < n; i++) {
                triangles(n + ": ", INVALID, x, last(n), 0, 1, n, i, i);
            }
        }
        triangles("3: ", 1, of(3), 12, 2, 1, 3, 2, 1);
        triangles("3: ", 1, of(3), 12, 1, 2, 3, 1, 2);
    }

    /** "NOT_POSSIBLE if it is no plane". */
    void isNotPossibleInNoPlane() {
        for (int n : SIZES) {
            triangles("no plane of " + n + ": ", IMPOSSIBLE, noPlane(n), last(n), 0, 1, n, 1, 0);
            triangles("no plane of " + n + ": ", IMPOSSIBLE, noPlane(n), 0, 0, 1, n, 0, 1);
        }
        leaves("triangles(20, 0, 1, 4, 1, 2) in no plane", IMPOSSIBLE, () -> busyNoPlane(4),
                x -> x.triangles(20, 0, 1, 4, 1, 2));
    }

    /** "Or a, b and c .. are on one line": these alone. */
    void isNotPossibleIfTheFirstAreOnOneLine() {
        for (int n : new int[] {3, 4, 5, 7, 9}) {
            for (int j = 1; j < n; j++) {
                // (0, 0), (1, 0) and the point (0) are on [0, 0]
                triangles(n + ": ", IMPOSSIBLE, of(n), last(n), 0, 1, n, 0, j);
            }
        }
        leaves("triangles(20, 0, 1, 4, 0, 1)", IMPOSSIBLE, () -> busy(4), x -> x.triangles(20, 0, 1, 4, 0, 1));
    }

    /** "Or d, e and f, are on one line": these alone. */
    void isNotPossibleIfTheOthersAreOnOneLine() {
        for (int n : new int[] {3, 4, 5, 7, 9}) {
            for (int i = 1; i < n; i++) {
                triangles(n + ": ", IMPOSSIBLE, of(n), last(n), 0, 1, n, i, 0);
            }
        }
        leaves("triangles(20, 0, 1, 4, 1, 0)", IMPOSSIBLE, () -> busy(4), x -> x.triangles(20, 0, 1, 4, 1, 0));
    }

    /** In the smallest plane one of two such triangles is always a line. */
    void isNeverPossibleOfTwoElements() {
        for (int p = 0; p < 7; p++) {
            triangles("2: ", IMPOSSIBLE, of(2), p, 0, 1, 2, 0, 1);
            triangles("2: ", IMPOSSIBLE, of(2), p, 2, 1, 0, 1, 0);
        }
    }

    /** "INVALID_ARGUMENT is returned rather than NOT_POSSIBLE": in no plane, and where corners are on one line. */
    void isInvalidRatherThanNotPossible() {
        for (int n : SIZES) {
            int[] first = {last(n) + 1, n + 1, n + 1, n + 1, n, n};
            for (int place = 0; place < 6; place++) {
                outOfRange("no plane of " + n + ": ", noPlane(n), place, first[place]);
                outOfRange("no plane of " + n + ": ", noPlane(n), place, -1);
            }
            triangles("no plane of " + n + ": ", INVALID, noPlane(n), 0, 1, 1, 2, 0, 1);
            triangles("no plane of " + n + ": ", INVALID, noPlane(n), 0, 1, 2, 1, 0, 1);
            triangles("no plane of " + n + ": ", INVALID, noPlane(n), 0, 2, 1, 1, 0, 1);
            triangles("no plane of " + n + ": ", INVALID, noPlane(n), 0, 0, 1, 2, 1, 1);
            triangles("corners on one line of " + n + ": ", INVALID, of(n), last(n), 0, 1, n, 0, n);
            triangles("corners on one line of " + n + ": ", INVALID, of(n), last(n), 0, 1, n, 0, 0);
        }
    }

    /** "A call that returns an error changes nothing", nor does one that tells 0 or 1. */
    void changesNothing() {
        leaves("triangles(21, 0, 1, 4, 1, 2)", INVALID, () -> busy(4), x -> x.triangles(21, 0, 1, 4, 1, 2));
        leaves("triangles(20, 0, 0, 4, 1, 2)", INVALID, () -> busyNoPlane(4), x -> x.triangles(20, 0, 0, 4, 1, 2));
        leaves("triangles(20, 0, 1, 4, 4, 2)", INVALID, () -> busy(4), x -> x.triangles(20, 0, 1, 4, 4, 2));
        leaves("triangles(20, 0, 1, 4, 1, 2)", 1, () -> busy(4), x -> x.triangles(20, 0, 1, 4, 1, 2));
        leaves("triangles of the twisted", 0, PromiseTests::twisted, x -> x.triangles(0, 0, 3, 9, 0, 2));
    }

    /** "Returns 1 if they close, otherwise 0", by "the points .. among those that are not p, lowest first". */
    void closesAsTheMeetsTell() {
        for (int p = 0; p < 13; p++) {
            for (int lines = 0; lines < 64; lines++) {
                asTheMeetsTell(new RingPlanes(), 3, p, lines / 16, lines / 4 % 4, lines % 4);
            }
        }
        for (int p = 0; p < 91; p += 5) {
            RingPlanes x = twisted();
            if (p % 2 == 1) {
                x.exchange();
            }
            asTheMeetsTell(x, 9, p, p % 10, (p + 3) % 10, (p + 7) % 10);
        }
        triangles("twisted: ", 0, twisted(), 0, 0, 3, 9, 0, 2);
        triangles("twisted: ", 0, twisted(), 0, 9, 0, 3, 2, 0);
        triangles("9: ", 1, of(9), 0, 0, 3, 9, 0, 2);
    }

    private void asTheMeetsTell(RingPlanes x, int n, int p, int l, int m, int k) {
        if (l == m || l == k || m == k) {
            return;
        }
        int[] rays = {x.at(p, 1, l), x.at(p, 1, m), x.at(p, 1, k)};
        int[][] corners = new int[n][3];
        for (int ray = 0; ray < 3; ray++) {
            int index = 0;
            for (int place = 0; place <= n; place++) {
                int point = x.at(rays[ray], 0, place);
                if (point != p) {
                    corners[index][ray] = point;
                    index++;
                }
            }
        }
        for (int j = 1; j < n && j < 5; j++) {
            triangles("", close(x, corners[0], corners[j]), x, p, l, m, k, 0, j);
            triangles("", close(x, corners[j], corners[j - 1]), x, p, l, m, k, j, j - 1);
        }
    }

    private static int close(RingPlanes x, int[] one, int[] two) {
        if (onOneLine(x, one[0], one[1], one[2]) || onOneLine(x, two[0], two[1], two[2])) {
            return IMPOSSIBLE;
        }
        int[] meets = new int[3];
        for (int side = 0; side < 3; side++) {
            int next = (side + 1) % 3;
            meets[side] = x.join(x.join(one[side], one[next], 0), x.join(two[side], two[next], 0), 1);
        }
        return onOneLine(x, meets[0], meets[1], meets[2]) ? 1 : 0;
    }

    private static boolean onOneLine(RingPlanes x, int a, int b, int c) {
        return a == b || x.on(c, x.join(a, b, 0)) == 1;
    }
}

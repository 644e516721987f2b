/** Promise 14: open. */
public final class Promise14Test extends PromiseTests {
    public static void main(String[] args) {
        new Promise14Test().run();
    }

    /** "p: number of the point": "INVALID_ARGUMENT". */
    void refusesWhatIsNoPoint() {
        for (int n : SIZES) {
            RingPlanes x = of(n);
            due(n + ": open(last)", 0, x.open(last(n)));
            due(n + ": open(last + 1)", INVALID, x.open(last(n) + 1));
            due(n + ": open(last + 2)", INVALID, x.open(last(n) + 2));
            due(n + ": open(91)", INVALID, x.open(91));
            for (int bad : FAR) {
                due(n + ": open(" + bad + ")", INVALID, x.open(bad));
            }
        }
        leaves("open(-1)", INVALID, () -> busy(4), x -> x.open(-1));
        leaves("open(21)", INVALID, () -> busy(4), x -> x.open(21));
        leaves("open(20)", 0, () -> busy(4), x -> x.open(20));
    }

    /** "NOT_POSSIBLE if it is no plane". */
    void isNotPossibleInNoPlane() {
        for (int n : SIZES) {
            RingPlanes x = noPlane(n);
            for (int p = 0; p <= last(n); p++) {
                due("no plane of " + n + ": open(" + p + ")", IMPOSSIBLE, x.open(p));
            }
        }
        leaves("open(0) in no plane", IMPOSSIBLE, () -> busyNoPlane(4), x -> x.open(0));
        leaves("open(20) in no plane", IMPOSSIBLE, () -> busyNoPlane(4), x -> x.open(20));
    }

    /** "INVALID_ARGUMENT is returned rather than NOT_POSSIBLE". */
    void isInvalidRatherThanNotPossible() {
        for (int n : SIZES) {
            due("no plane of " + n + ": open(last + 1)", INVALID, noPlane(n).open(last(n) + 1));
            due("no plane of " + n + ": open(-1)", INVALID, noPlane(n).open(-1));
        }
    }

    /** "(Those of which it is NOT_POSSIBLE do not count)": from a point (x, y) there are only such. */
    void countsNoneThatAreNotPossible() {
        for (int n : SIZES) {
            RingPlanes x = of(n);
            for (int j = 1; j < n; j++) {
                for (int i = 0; i < j; i++) {
                    due(n + ": triangles(0, 0, 1, 2, " + i + ", " + j + ")", IMPOSSIBLE, x.triangles(0, 0, 1, 2, i, j));
                }
            }
            for (int p = 0; p <= last(n); p++) {
                due(n + ": open(" + p + ")", 0, x.open(p));
            }
        }
    }

    /** "Of which triangles() tells 0": those that close do not count. */
    void countsNoneThatClose() {
        for (int n : new int[] {3, 4, 5, 7, 9}) {
            RingPlanes x = ring(n, (a, b) -> sum(n, fieldProduct(n, a, b), a == 2 ? 1 : 0));
            for (int j = 1; j < n; j++) {
                for (int i = 0; i < j; i++) {
                    due("shifted " + n + ": triangles(last, 0, 1, 2, " + i + ", " + j + ")", 1,
                            x.triangles(last(n), 0, 1, 2, i, j));
                }
            }
            due("shifted " + n + ": open(last)", 0, x.open(last(n)));
        }
    }

    /** "With its lines 0, 1 and 2 .. pairs of indexes i below j": as triangles() tells of each. */
    void countsAsTrianglesTell() {
        for (int p = 0; p < 91; p += 3) {
            RingPlanes x = twisted();
            if (p % 2 == 1) {
                x.exchange();
            }
            int open = 0;
            for (int j = 1; j < 9; j++) {
                for (int i = 0; i < j; i++) {
                    open += x.triangles(p, 0, 1, 2, i, j) == 0 ? 1 : 0;
                }
            }
            due("twisted: open(" + p + ")", open, x.open(p));
        }
    }
}

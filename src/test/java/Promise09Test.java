/** Promise 9: on. */
public final class Promise09Test extends PromiseTests {
    public static void main(String[] args) {
        new Promise09Test().run();
    }

    /** "There are n * n + n + 1 points .. There are as many lines": "INVALID_ARGUMENT" beyond. */
    void refusesWhatIsNoPointOrLine() {
        for (int n : SIZES) {
            RingPlanes x = of(n);
            int beyond = last(n) + 1;
            due(n + ": on(last, last)", 1, x.on(beyond - 1, beyond - 1));
            due(n + ": on(0, 0)", 1, x.on(0, 0));
            due(n + ": on(beyond, 0)", INVALID, x.on(beyond, 0));
            due(n + ": on(0, beyond)", INVALID, x.on(0, beyond));
            due(n + ": on(beyond, beyond)", INVALID, x.on(beyond, beyond));
            due(n + ": on(91, 0)", INVALID, x.on(91, 0));
            due(n + ": on(0, 91)", INVALID, x.on(0, 91));
            for (int bad : FAR) {
                due(n + ": on(" + bad + ", 1)", INVALID, x.on(bad, 1));
                due(n + ": on(1, " + bad + ")", INVALID, x.on(1, bad));
            }
        }
        leaves("on(-1, 0)", INVALID, () -> busyNoPlane(4), x -> x.on(-1, 0));
        leaves("on(0, 21)", INVALID, () -> busyNoPlane(4), x -> x.on(0, 21));
        leaves("on(0, 0)", 0, () -> busyNoPlane(4), x -> x.on(0, 0));
        leaves("on(0, 0) in a plane", 1, () -> busy(4), x -> x.on(0, 0));
    }

    /** "Its points are all (x, y) with y = x * m + b, and the point (m)"; "its points are all (c, y)" .. */
    void isAsTheNumbersTell() {
        for (int n : SIZES) {
            everyPair(n + ": ", n, false);
            everyPair("changed " + n + ": ", n, true);
        }
    }

    private void everyPair(String told, int n, boolean changed) {
        for (int point = 0; point <= last(n); point++) {
            RingPlanes x = of(n);
            x.product(n - 1, 1, changed ? 1 : n - 1);
            for (int line = 0; line <= last(n); line++) {
                due(told + "on(" + point + ", " + line + ")", expected(n, changed, point, line), x.on(point, line));
            }
        }
    }

    private static int expected(int n, boolean changed, int point, int line) {
        int square = n * n;
        if (line == square + n) {
            return point >= square ? 1 : 0;
        }
        if (line >= square) {
            return point == square + n || point < square && point / n == line - square ? 1 : 0;
        }
        if (point >= square) {
            return point - square == line / n ? 1 : 0;
        }
        int x = point / n;
        int m = line / n;
        int product = changed && x == n - 1 && m == 1 ? 1 : fieldProduct(n, x, m);
        return point % n == sum(n, product, line % n) ? 1 : 0;
    }

    /** "The point (m) has n * n + m; the last one has n * n + n": where one kind of points ends and the next begins. */
    void changesKindAtTheEndsOfPoints() {
        for (int n : SIZES) {
            RingPlanes x = of(n);
            int square = n * n;
            due(n + ": the last (x, y) on [last, 0]", fieldProduct(n, n - 1, n - 1) == n - 1 ? 1 : 0,
                    x.on(square - 1, square - n));
            due(n + ": the last (x, y) on the last line", 0, x.on(square - 1, square + n));
            due(n + ": (0) on [0, 0]", 1, x.on(square, 0));
            due(n + ": (0) on [1, 0]", 0, x.on(square, n));
            due(n + ": (0) on the last line", 1, x.on(square, square + n));
            due(n + ": the last (m) on its lines", 1, x.on(square + n - 1, square - 1));
            due(n + ": the last (m) on [last]", 0, x.on(square + n - 1, square + n - 1));
            due(n + ": the last point on [last]", 1, x.on(square + n, square + n - 1));
            due(n + ": the last point on [0]", 1, x.on(square + n, square));
            due(n + ": the last point on [last, last]", 0, x.on(square + n, square - 1));
        }
    }

    /** "Its points are all (x, y) with y = x * m + b": a product that is set moves one point of each of n lines. */
    void followsTheProducts() {
        RingPlanes x = new RingPlanes();
        due("on(8, 8)", 0, x.on(8, 8));
        due("on(7, 6)", 1, x.on(7, 6));
        x.product(2, 2, 2);
        due("on(7, 6) after 2 * 2 = 2", 0, x.on(7, 6));
        due("on(8, 6) after 2 * 2 = 2", 1, x.on(8, 6));
        due("on(7, 8) after 2 * 2 = 2", 1, x.on(7, 8));
        x.undo();
        due("on(7, 6) after undo()", 1, x.on(7, 6));
        due("on(8, 6) after undo()", 0, x.on(8, 6));
    }
}

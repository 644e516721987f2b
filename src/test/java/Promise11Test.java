/** Promise 11: join. */
public final class Promise11Test extends PromiseTests {
    public static void main(String[] args) {
        new Promise11Test().run();
    }

    /** "one: number; other: another number". */
    void refusesWhatIsNoNumber() {
        for (int n : SIZES) {
            RingPlanes x = of(n);
            int beyond = last(n) + 1;
            for (int which = 0; which < 2; which++) {
                due(n + ": join(beyond, 0, " + which + ")", INVALID, x.join(beyond, 0, which));
                due(n + ": join(0, beyond, " + which + ")", INVALID, x.join(0, beyond, which));
                due(n + ": join(beyond, beyond + 1, " + which + ")", INVALID, x.join(beyond, beyond + 1, which));
                for (int bad : FAR) {
                    due(n + ": join(" + bad + ", 0, " + which + ")", INVALID, x.join(bad, 0, which));
                    due(n + ": join(0, " + bad + ", " + which + ")", INVALID, x.join(0, bad, which));
                }
            }
        }
        leaves("join(-1, 0, 0)", INVALID, () -> busyNoPlane(4), x -> x.join(-1, 0, 0));
        leaves("join(0, 21, 1)", INVALID, () -> busyNoPlane(4), x -> x.join(0, 21, 1));
    }

    /** "INVALID_ARGUMENT if .. both are the same". */
    void refusesTheSame() {
        for (int n : SIZES) {
            for (int number : new int[] {0, 1, n * n - 1, n * n, last(n) - 1, last(n)}) {
                due(n + ": join(" + number + ", same, 0)", INVALID, of(n).join(number, number, 0));
                due(n + ": join(" + number + ", same, 1)", INVALID, of(n).join(number, number, 1));
                due("no plane of " + n + ": join(" + number + ", same, 0)", INVALID,
                        noPlane(n).join(number, number, 0));
            }
        }
        leaves("join(3, 3, 0)", INVALID, () -> busy(4), x -> x.join(3, 3, 0));
        leaves("join(20, 20, 1)", INVALID, () -> busy(4), x -> x.join(20, 20, 1));
    }

    /** "which: 0: the line of two points; 1: the meet of two lines". */
    void refusesWhatIsNoKind() {
        RingPlanes x = new RingPlanes();
        due("join(0, 1, 2)", INVALID, x.join(0, 1, 2));
        for (int bad : FAR) {
            due("join(0, 1, " + bad + ")", INVALID, x.join(0, 1, bad));
        }
        leaves("join(0, 1, -1)", INVALID, () -> busyNoPlane(4), y -> y.join(0, 1, -1));
        leaves("join(0, 1, 2)", INVALID, () -> busyNoPlane(4), y -> y.join(0, 1, 2));
    }

    /** "(There may be none, if it is no plane)": "NOT_FOUND if there is none". */
    void findsNone() {
        RingPlanes x = new RingPlanes();
        x.product(1, 1, 2);
        due("join(0, 4, 0)", MISSING, x.join(0, 4, 0));
        due("join(4, 0, 0)", MISSING, x.join(4, 0, 0));
        due("join(3, 8, 1)", MISSING, x.join(3, 8, 1));
        due("join(8, 3, 1)", MISSING, x.join(8, 3, 1));
        for (int n : SIZES) {
            RingPlanes zeros = ring(n, (a, b) -> 0);
            due(n + ", zeros: the line of (0, 0) and (last, last)", MISSING, zeros.join(0, n * n - 1, 0));
            due(n + ", zeros: the meet of [0, 0] and [last, last]", MISSING, zeros.join(0, n * n - 1, 1));
            due(n + ", zeros: the meet of [0, 1] and [1, 0]", MISSING, zeros.join(1, n, 1));
        }
        leaves("join without a line", MISSING, Promise11Test::zeros, y -> y.join(0, 8, 0));
        leaves("join without a point", MISSING, Promise11Test::zeros, y -> y.join(0, 8, 1));
    }

    private static RingPlanes zeros() {
        RingPlanes x = ring(3, (a, b) -> 0);
        type(x, FULL_TEXT);
        return x;
    }

    /** "The lowest line on which both are", and "the lowest point that is on both", of many. */
    void findsTheLowest() {
        for (int n : SIZES) {
            RingPlanes x = ring(n, (a, b) -> 0);
            due(n + ": the line of (0, last) and (last, last)", n - 1, x.join(n - 1, n * n - 1, 0));
            due(n + ": the line of (last, last) and (0, last)", n - 1, x.join(n * n - 1, n - 1, 0));
            due(n + ": the meet of [0, last] and [last, last]", n - 1, x.join(n - 1, n * n - 1, 1));
            due(n + ": the meet of [last, last] and [0, last]", n - 1, x.join(n * n - 1, n - 1, 1));
            due(n + ": the line of (0, 0) and (0, 1)", n * n, x.join(0, 1, 0));
            due(n + ": the meet of [0, 0] and [0, 1]", n * n, x.join(0, 1, 1));
        }
        RingPlanes three = new RingPlanes();
        three.product(1, 1, 2);
        // (0, 0) and (1, 2) are on [1, 0] and [2, 0]
        due("join(0, 5, 0)", 3, three.join(0, 5, 0));
        due("join(5, 0, 0)", 3, three.join(5, 0, 0));
        due("join(3, 6, 1)", 0, three.join(3, 6, 1));
        due("join(6, 3, 1)", 0, three.join(6, 3, 1));
    }

    /** "INVALID_ARGUMENT is returned rather than .. NOT_FOUND". */
    void isInvalidRatherThanNotFound() {
        RingPlanes x = zeros();
        due("join(0, 8, 0)", MISSING, x.join(0, 8, 0));
        due("join(0, 8, 2)", INVALID, x.join(0, 8, 2));
        due("join(0, 8, -1)", INVALID, x.join(0, 8, -1));
        due("join(8, 8, 0)", INVALID, x.join(8, 8, 0));
        due("join(13, 8, 1)", INVALID, x.join(13, 8, 1));
    }

    /** Points and lines of every kind: on the line (or point) that is told both are, and on no lower one. */
    void joinsTheEnds() {
        for (int n : SIZES) {
            int square = n * n;
            int[] ends = {0, n - 1, n, square - 1, square, square + n - 1, square + n};
            for (int one : ends) {
                for (int other : ends) {
                    if (one != other) {
                        joined(n + ": ", of(n), n, one, other);
                    }
                }
            }
            due(n + ": the line of (0) and the last point", last(n), of(n).join(square, last(n), 0));
            due(n + ": the meet of [0] and the last line", last(n), of(n).join(square, last(n), 1));
            due(n + ": the line of (0, 0) and the last point", square, of(n).join(0, last(n), 0));
            due(n + ": the meet of [0, 0] and the last line", square, of(n).join(0, last(n), 1));
        }
    }

    private void joined(String told, RingPlanes x, int n, int one, int other) {
        int line = 0;
        while (line < last(n) && (x.on(one, line) == 0 || x.on(other, line) == 0)) {
            line++;
        }
        due(told + "join(" + one + ", " + other + ", 0)", line, x.join(one, other, 0));
        int point = 0;
        while (point < last(n) && (x.on(point, one) == 0 || x.on(point, other) == 0)) {
            point++;
        }
        due(told + "join(" + one + ", " + other + ", 1)", point, x.join(one, other, 1));
    }
}

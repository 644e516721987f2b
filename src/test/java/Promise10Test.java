/** Promise 10: at. */
public final class Promise10Test extends PromiseTests {
    public static void main(String[] args) {
        new Promise10Test().run();
    }

    /** "number: number of the line, or of the point". */
    void refusesWhatIsNoNumber() {
        for (int n : SIZES) {
            RingPlanes x = of(n);
            for (int which = 0; which < 2; which++) {
                due(n + ": at(last, " + which + ", 0)", n * n, x.at(last(n), which, 0));
                due(n + ": at(last + 1, " + which + ", 0)", INVALID, x.at(last(n) + 1, which, 0));
                due(n + ": at(91, " + which + ", 0)", INVALID, x.at(91, which, 0));
                for (int bad : FAR) {
                    due(n + ": at(" + bad + ", " + which + ", 0)", INVALID, x.at(bad, which, 0));
                }
            }
        }
        leaves("at(-1, 0, 0)", INVALID, () -> busyNoPlane(4), x -> x.at(-1, 0, 0));
        leaves("at(21, 1, 0)", INVALID, () -> busyNoPlane(4), x -> x.at(21, 1, 0));
    }

    /** "which: 0: a point of the line; 1: a line of the point". */
    void refusesWhatIsNoKind() {
        RingPlanes x = new RingPlanes();
        due("at(0, 2, 0)", INVALID, x.at(0, 2, 0));
        for (int bad : FAR) {
            due("at(0, " + bad + ", 0)", INVALID, x.at(0, bad, 0));
        }
        leaves("at(0, -1, 0)", INVALID, () -> busyNoPlane(4), y -> y.at(0, -1, 0));
        leaves("at(0, 2, 0)", INVALID, () -> busyNoPlane(4), y -> y.at(0, 2, 0));
    }

    /** "INVALID_ARGUMENT if an argument is out of range or index is negative". */
    void refusesNegativeIndexes() {
        for (int which = 0; which < 2; which++) {
            int kind = which;
            RingPlanes x = of(9);
            for (int bad : new int[] {-1, -2, -10, -1000004, Integer.MIN_VALUE + 1, Integer.MIN_VALUE}) {
                due("at(0, " + which + ", " + bad + ")", INVALID, x.at(0, which, bad));
                due("at(90, " + which + ", " + bad + ")", INVALID, x.at(90, which, bad));
            }
            leaves("at(0, " + which + ", -1)", INVALID, () -> busyNoPlane(4), y -> y.at(0, kind, -1));
        }
    }

    /** "NOT_FOUND if there are not so many": each line has n + 1 points, each point n + 1 lines, in a plane or not. */
    void findsNotSoMany() {
        for (int n : SIZES) {
            ends(n + ": ", of(n), n);
            ends("no plane of " + n + ": ", noPlane(n), n);
            ends("all products 0 of " + n + ": ", ring(n, (a, b) -> 0), n);
        }
        leaves("at(0, 0, 5)", MISSING, () -> busyNoPlane(4), x -> x.at(0, 0, 5));
        leaves("at(20, 1, 5)", MISSING, () -> busyNoPlane(4), x -> x.at(20, 1, 5));
    }

    private void ends(String told, RingPlanes x, int n) {
        for (int number : new int[] {0, n * n - 1, n * n, n * n + n - 1, n * n + n}) {
            for (int which = 0; which < 2; which++) {
                String call = told + "at(" + number + ", " + which + ", ";
                int found = x.at(number, which, n);
                due(call + "n) is one", 1, found >= n * n && found <= n * n + n ? 1 : 0);
                due(call + "n + 1)", MISSING, x.at(number, which, n + 1));
                due(call + "n + 2)", MISSING, x.at(number, which, n + 2));
                due(call + "1000000)", MISSING, x.at(number, which, 1000000));
                due(call + "MAX_VALUE)", MISSING, x.at(number, which, Integer.MAX_VALUE));
                due(call + "MAX_VALUE - n)", MISSING, x.at(number, which, Integer.MAX_VALUE - n));
            }
        }
    }

    /** "INVALID_ARGUMENT is returned rather than .. NOT_FOUND". */
    void isInvalidRatherThanNotFound() {
        for (int n : SIZES) {
            RingPlanes x = of(n);
            due(n + ": at(beyond, 0, n + 1)", INVALID, x.at(last(n) + 1, 0, n + 1));
            due(n + ": at(-1, 1, n + 1)", INVALID, x.at(-1, 1, n + 1));
            due(n + ": at(0, 2, n + 1)", INVALID, x.at(0, 2, n + 1));
            due(n + ": at(0, -1, MAX_VALUE)", INVALID, x.at(0, -1, Integer.MAX_VALUE));
        }
    }

    /** "index: 0 for the lowest one, and so on": all that are on it, in order. */
    void tellsTheLowestFirst() {
        for (int n : SIZES) {
            for (int number = 0; number <= last(n); number++) {
                inOrder(n + ": ", of(n), n, number);
                RingPlanes changed = noPlane(n);
                changed.product(n - 1, n - 1, 0);
                inOrder("changed " + n + ": ", changed, n, number);
            }
        }
    }

    private void inOrder(String told, RingPlanes x, int n, int number) {
        for (int which = 0; which < 2; which++) {
            int index = 0;
            for (int other = 0; other <= last(n); other++) {
                if ((which == 0 ? x.on(other, number) : x.on(number, other)) == 1) {
                    String call = told + "at(" + number + ", " + which + ", " + index + ")";
                    due(call, other, x.at(number, which, index));
                    index++;
                }
            }
            due(told + number + " has so many of " + which, n + 1, index);
        }
    }

    /** "The last line has all points (m), and the last one"; the last point is on all lines [c], and the last one. */
    void endsWithTheLastOnes() {
        for (int n : SIZES) {
            RingPlanes x = of(n);
            for (int index = 0; index <= n; index++) {
                due(n + ": the last line, " + index, n * n + index, x.at(last(n), 0, index));
                due(n + ": the last point, " + index, n * n + index, x.at(last(n), 1, index));
            }
            due(n + ": the last of [0]", last(n), x.at(n * n, 0, n));
            due(n + ": the last of (0)", last(n), x.at(n * n, 1, n));
            due(n + ": the last of [last, last]", last(n) - 1, x.at(n * n - 1, 0, n));
            due(n + ": the last of (last, last)", last(n) - 1, x.at(n * n - 1, 1, n));
        }
    }
}

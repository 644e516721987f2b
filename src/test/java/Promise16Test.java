/** Promise 16: mirrors. */
public final class Promise16Test extends PromiseTests {
    public static void main(String[] args) {
        new Promise16Test().run();
    }

    /** "line: number of the line; point: number of the point": "INVALID_ARGUMENT". */
    void refusesWhatIsNoNumber() {
        for (int n : SIZES) {
            RingPlanes x = of(n);
            int beyond = last(n) + 1;
            due(n + ": mirrors(beyond, 0)", INVALID, x.mirrors(beyond, 0));
            due(n + ": mirrors(0, beyond)", INVALID, x.mirrors(0, beyond));
            due(n + ": mirrors(beyond, beyond)", INVALID, x.mirrors(beyond, beyond));
            due(n + ": mirrors(91, 0)", INVALID, x.mirrors(91, 0));
            due(n + ": mirrors(0, 91)", INVALID, x.mirrors(0, 91));
            for (int bad : FAR) {
                due(n + ": mirrors(" + bad + ", 0)", INVALID, x.mirrors(bad, 0));
                due(n + ": mirrors(0, " + bad + ")", INVALID, x.mirrors(0, bad));
            }
        }
        leaves("mirrors(-1, 0)", INVALID, () -> busy(4), x -> x.mirrors(-1, 0));
        leaves("mirrors(0, 21)", INVALID, () -> busy(4), x -> x.mirrors(0, 21));
    }

    /** "NOT_POSSIBLE if it is no plane". */
    void isNotPossibleInNoPlane() {
        for (int n : SIZES) {
            RingPlanes x = noPlane(n);
            due("no plane of " + n + ": mirrors(0, 0)", IMPOSSIBLE, x.mirrors(0, 0));
            due("no plane of " + n + ": mirrors(last, last)", IMPOSSIBLE, x.mirrors(last(n), last(n)));
            due("no plane of " + n + ": mirrors(last, 0)", IMPOSSIBLE, x.mirrors(last(n), 0));
            due("no plane of " + n + ": mirrors(0, last)", IMPOSSIBLE, x.mirrors(0, last(n)));
        }
        leaves("mirrors(0, 0) in no plane", IMPOSSIBLE, () -> busyNoPlane(4), x -> x.mirrors(0, 0));
    }

    /** "INVALID_ARGUMENT is returned rather than NOT_POSSIBLE". */
    void isInvalidRatherThanNotPossible() {
        for (int n : SIZES) {
            RingPlanes x = noPlane(n);
            due("no plane of " + n + ": mirrors(last + 1, 0)", INVALID, x.mirrors(last(n) + 1, 0));
            due("no plane of " + n + ": mirrors(0, last + 1)", INVALID, x.mirrors(0, last(n) + 1));
            due("no plane of " + n + ": mirrors(-1, 0)", INVALID, x.mirrors(-1, 0));
            due("no plane of " + n + ": mirrors(0, -1)", INVALID, x.mirrors(0, -1));
        }
    }

    /** "(The map that fixes all points is one)": where there is no other one, it is counted. */
    void countsTheMapThatFixesAll() {
        RingPlanes two = of(2);
        for (int line = 0; line < 7; line++) {
            for (int point = 0; point < 7; point++) {
                due("2: mirrors(" + line + ", " + point + ")", 1 + two.on(point, line), two.mirrors(line, point));
            }
        }
        RingPlanes x = twisted();
        due("twisted: mirrors(0, 40)", 1, x.mirrors(0, 40));
        due("twisted: mirrors(0, 1)", 1, x.mirrors(0, 1));
        due("twisted: mirrors(0, 0)", 1, x.mirrors(0, 0));
        x.exchange();
        due("exchanged: mirrors(90, 81)", 1, x.mirrors(90, 81));
    }

    /** With a point of the line there are n of a field, otherwise n - 1: for the first and the last of each kind. */
    void countsAllOfAField() {
        for (int n : SIZES) {
            RingPlanes x = of(n);
            int[] ends = {0, n - 1, n, n * n - 1, n * n, last(n) - 1, last(n)};
            for (int line : ends) {
                for (int point : ends) {
                    due(n + ": mirrors(" + line + ", " + point + ")", n - 1 + x.on(point, line), x.mirrors(line, point));
                }
            }
        }
    }

    /** "Lead each line through the point to itself, and each line to a line": fewer of the twisted ring. */
    void countsSomeOfTheTwisted() {
        RingPlanes x = twisted();
        for (int point = 81; point <= 90; point++) {
            due("mirrors(90, " + point + ")", 9, x.mirrors(90, point));
        }
        for (int c = 0; c < 9; c++) {
            due("mirrors of [" + c + "] and (0)", 8, x.mirrors(81 + c, 81));
            due("mirrors of [1, " + c + "] and (0)", 1, x.mirrors(9 + c, 81));
        }
        due("mirrors(81, 90)", 1, x.mirrors(81, 90));
    }

    /** The plane counts, not the laws: rows that are shifted lead to the same plane with other numbers. */
    void countsTheSameOfRowsThatAreShifted() {
        for (int n : new int[] {2, 3, 4, 5, 7}) {
            RingPlanes x = ring(n, (a, b) -> sum(n, fieldProduct(n, a, b), a == n - 1 ? 1 : 0));
            int[] ends = {0, n - 1, n * n - 1, n * n, last(n) - 1, last(n)};
            for (int line : ends) {
                for (int point : ends) {
                    due("shifted " + n + ": mirrors(" + line + ", " + point + ")", n - 1 + x.on(point, line),
                            x.mirrors(line, point));
                }
            }
        }
    }

    /** The answer is of the present plane alone, whatever plane was asked before. */
    void keepsNothingOfTheCallBefore() {
        RingPlanes x = twisted();
        due("twisted: mirrors(90, 90)", 9, x.mirrors(90, 90));
        due("twisted: mirrors(0, 40)", 1, x.mirrors(0, 40));
        due("twisted: mirrors(90, 90) again", 9, x.mirrors(90, 90));
        x.field(2);
        due("2: mirrors(6, 6)", 2, x.mirrors(6, 6));
        due("2: mirrors(6, 0)", 1, x.mirrors(6, 0));
        x.field(9);
        due("9: mirrors(0, 40)", 8, x.mirrors(0, 40));
        x.undo();
        x.undo();
        due("twisted: mirrors(0, 40) again", 1, x.mirrors(0, 40));
        leaves("mirrors(20, 20)", 4, () -> busy(4), y -> y.mirrors(20, 20));
        leaves("mirrors(0, 20)", 3, () -> busy(4), y -> y.mirrors(0, 20));
    }
}

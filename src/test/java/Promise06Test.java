/** Promise 6: by. */
public final class Promise06Test extends PromiseTests {
    public static void main(String[] args) {
        new Promise06Test().run();
    }

    /** "INVALID_ARGUMENT if an argument is out of range": elements. */
    void refusesWhatIsNoElement() {
        for (int n : SIZES) {
            for (int what = 0; what < 5; what++) {
                RingPlanes x = of(n);
                for (int bad : new int[] {n, n + 1, 10}) {
                    due(n + ": by(" + bad + ", 0, " + what + ")", INVALID, x.by(bad, 0, what));
                    due(n + ": by(0, " + bad + ", " + what + ")", INVALID, x.by(0, bad, what));
                }
                for (int bad : FAR) {
                    due(n + ": by(" + bad + ", 1, " + what + ")", INVALID, x.by(bad, 1, what));
                    due(n + ": by(1, " + bad + ", " + what + ")", INVALID, x.by(1, bad, what));
                }
            }
        }
        leaves("by(4, 0, 0)", INVALID, () -> busy(4), x -> x.by(4, 0, 0));
        leaves("by(0, 4, 4)", INVALID, () -> busy(4), x -> x.by(0, 4, 4));
    }

    /** "what: 0 .. 4". */
    void refusesWhatIsNoKind() {
        RingPlanes x = of(9);
        due("by(0, 0, 5)", INVALID, x.by(0, 0, 5));
        due("by(8, 8, 6)", INVALID, x.by(8, 8, 6));
        for (int bad : FAR) {
            due("by(0, 0, " + bad + ")", INVALID, x.by(0, 0, bad));
        }
        leaves("by(1, 1, -1)", INVALID, () -> busy(4), y -> y.by(1, 1, -1));
        leaves("by(1, 1, 5)", INVALID, () -> busy(4), y -> y.by(1, 1, 5));
    }

    /** "0: a + b": the first and the last elements. */
    void addsAtTheEnds() {
        for (int n : SIZES) {
            RingPlanes x = of(n);
            int end = n - 1;
            due(n + ": 0 + 0", 0, x.by(0, 0, 0));
            due(n + ": last + 0", end, x.by(end, 0, 0));
            due(n + ": 0 + last", end, x.by(0, end, 0));
            due(n + ": last + last", sum(n, end, end), x.by(end, end, 0));
            due(n + ": last + 1", sum(n, end, 1), x.by(end, 1, 0));
        }
    }

    /** "a - b is the element which added to b gives a", below 0 as well. */
    void subtractsBelowZero() {
        for (int n : SIZES) {
            RingPlanes x = of(n);
            for (int a = 0; a < n; a++) {
                for (int b = 0; b < n; b++) {
                    due(n + ": (" + a + " - " + b + ") + " + b, a, sum(n, x.by(a, b, 1), b));
                }
            }
        }
        due("5: 0 - 1", 4, of(5).by(0, 1, 1));
        due("9: 0 - 8", 4, of(9).by(0, 8, 1));
        due("9: 3 - 1, nothing is borrowed", 5, of(9).by(3, 1, 1));
        due("4: 0 - 3", 3, of(4).by(0, 3, 1));
    }

    /** Sums and differences are not of the products: they stay when these are set by hand. */
    void addsTheSameInChangedRings() {
        RingPlanes x = ring(4, (a, b) -> 3);
        due("1 + 1", 0, x.by(1, 1, 0));
        due("1 - 2", 3, x.by(1, 2, 1));
        due("0 * 0", 3, x.by(0, 0, 2));
    }

    /** "3: the lowest x with a * x = b": 0 if it fits, n - 1 if nothing below fits. */
    void findsTheLowestRightFactor() {
        for (int n : SIZES) {
            RingPlanes x = of(n);
            int end = n - 1;
            due(n + ": 0 * x = 0", 0, x.by(0, 0, 3));
            due(n + ": 1 * x = last", end, x.by(1, end, 3));
            x.product(0, end, 1);
            due(n + ": 0 * x = 1", end, x.by(0, 1, 3));
            due(n + ": x * 0 = 1", MISSING, x.by(0, 1, 4));
            x.product(1, 0, end);
            due(n + ": 1 * x = last, the lowest", 0, x.by(1, end, 3));
        }
    }

    /** "4: the lowest x with x * a = b". */
    void findsTheLowestLeftFactor() {
        for (int n : SIZES) {
            RingPlanes x = of(n);
            int end = n - 1;
            due(n + ": x * 0 = 0", 0, x.by(0, 0, 4));
            due(n + ": x * 1 = last", end, x.by(1, end, 4));
            x.product(end, 0, 1);
            due(n + ": x * 0 = 1", end, x.by(0, 1, 4));
            due(n + ": 0 * x = 1", MISSING, x.by(0, 1, 3));
            x.product(0, 1, end);
            due(n + ": x * 1 = last, the lowest", 0, x.by(1, end, 4));
        }
    }

    /** "NOT_FOUND for 3 and 4 if there is none". */
    void findsNone() {
        for (int n : SIZES) {
            for (int b = 1; b < n; b++) {
                int to = b;
                leaves(n + ": by(0, " + b + ", 3)", MISSING, () -> of(n), x -> x.by(0, to, 3));
                leaves(n + ": by(0, " + b + ", 4)", MISSING, () -> of(n), x -> x.by(0, to, 4));
            }
        }
        RingPlanes x = ring(5, (a, b) -> 4);
        due("by(4, 3, 3)", MISSING, x.by(4, 3, 3));
        due("by(4, 3, 4)", MISSING, x.by(4, 3, 4));
        due("by(4, 0, 3)", MISSING, x.by(4, 0, 3));
        due("by(3, 4, 4)", 0, x.by(3, 4, 4));
    }

    /** "INVALID_ARGUMENT is returned rather than .. NOT_FOUND": what is no element is no product either. */
    void isInvalidRatherThanNotFound() {
        for (int n : SIZES) {
            RingPlanes x = of(n);
            due(n + ": by(0, n, 3)", INVALID, x.by(0, n, 3));
            due(n + ": by(0, n, 4)", INVALID, x.by(0, n, 4));
            due(n + ": by(0, -1, 3)", INVALID, x.by(0, -1, 3));
            due(n + ": by(n, 1, 4)", INVALID, x.by(n, 1, 4));
        }
    }

    /** What by() answers is no change. */
    void isNoChange() {
        for (int what = 0; what < 5; what++) {
            int kind = what;
            leaves("by(1, 2, " + what + ")", of(4).by(1, 2, what), () -> busy(4), x -> x.by(1, 2, kind));
        }
    }
}

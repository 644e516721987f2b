/** Promise 12: plane. */
public final class Promise12Test extends PromiseTests {
    public static void main(String[] args) {
        new Promise12Test().run();
    }

    /** "INVALID_ARGUMENT if what is out of range": it is 0, 1 or 2. */
    void refusesWhatIsNoKind() {
        for (int n : SIZES) {
            RingPlanes x = of(n);
            due(n + ": plane(3)", INVALID, x.plane(3));
            for (int bad : FAR) {
                due(n + ": plane(" + bad + ")", INVALID, x.plane(bad));
            }
        }
        leaves("plane(-1)", INVALID, () -> busyNoPlane(4), x -> x.plane(-1));
        leaves("plane(3)", INVALID, () -> busyNoPlane(4), x -> x.plane(3));
    }

    /** "0: 1 if it is one": no pair is told then. */
    void isOneOfEachField() {
        for (int n : SIZES) {
            planes(n + ": ", of(n), 1, 0, 0);
        }
        planes("twisted: ", twisted(), 1, 0, 0);
        RingPlanes x = twisted();
        x.exchange();
        planes("exchanged: ", x, 1, 0, 0);
    }

    private void planes(String told, RingPlanes x, int is, int points, int lines) {
        due(told + "plane(0)", is, x.plane(0));
        due(told + "plane(1)", points, x.plane(1));
        due(told + "plane(2)", lines, x.plane(2));
    }

    /** "This is a plane if each two points are on just one line": one product that is set is enough against it. */
    void isNoneAfterOneProduct() {
        for (int n : SIZES) {
            for (int place = 0; place < n * n; place++) {
                RingPlanes x = of(n);
                int a = place / n;
                int b = place % n;
                x.product(a, b, (fieldProduct(n, a, b) + 1) % n);
                planes(n + ", " + a + " * " + b + ": ", x, 0, 2 * n * (n - 1), 2 * n * (n - 1));
            }
        }
    }

    /** "How many pairs of points are not on just one line": those on none and on many; the most there can be. */
    void countsPairsOnNoneAndOnMany() {
        for (int n : SIZES) {
            int most = n * n * n * (n - 1) / 2;
            planes(n + ", zeros: ", ring(n, (a, b) -> 0), 0, most, most);
            planes(n + ", a * b is a: ", ring(n, (a, b) -> a), 0, most, most);
        }
    }

    /** "1: how many pairs of points ..; 2: how many pairs of lines ..": they are not the same number. */
    void countsPointsAndLinesApart() {
        RingPlanes x = new RingPlanes();
        for (int b = 0; b < 3; b++) {
            x.product(2, b, b);
        }
        planes("two same rows: ", x, 0, 9, 18);
        x.exchange();
        planes("two same columns: ", x, 0, 18, 9);
    }

    /** Rings that break laws may be planes all the same. */
    void isOneOfRowsThatAreShifted() {
        for (int n : SIZES) {
            RingPlanes x = ring(n, (a, b) -> sum(n, fieldProduct(n, a, b), n - 1));
            planes(n + ": ", x, 1, 0, 0);
            due(n + ": law(0, 0)", 0, x.law(0, 0));
        }
    }

    /** Whether it is a plane follows the products, also back. */
    void followsTheProducts() {
        RingPlanes x = of(5);
        x.product(4, 4, 2);
        due("plane(0)", 0, x.plane(0));
        x.product(4, 4, 1);
        due("plane(0) with the product of the field", 1, x.plane(0));
        x.undo();
        due("plane(0) after undo()", 0, x.plane(0));
        x.undo();
        due("plane(0) after undo() again", 1, x.plane(0));
    }

    /** What plane() answers is no change. */
    void isNoChange() {
        for (int what = 0; what < 3; what++) {
            int kind = what;
            leaves("plane(" + what + ")", what == 0 ? 0 : 24, () -> busyNoPlane(4), x -> x.plane(kind));
        }
    }
}

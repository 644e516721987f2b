/** Promise 5: exchange. */
public final class Promise05Test extends PromiseTests {
    public static void main(String[] args) {
        new Promise05Test().run();
    }

    /** "Returns how many products are other ones than ahead of it": none where all elements commute. */
    void countsNoneInAField() {
        for (int n : SIZES) {
            RingPlanes x = of(n);
            due(n + ": exchange()", 0, x.exchange());
            due(n + ": count(2)", 0, x.count(2));
        }
    }

    /** The same: two for one product that was set aside of the diagonal, none on it. */
    void countsBothSides() {
        for (int n : SIZES) {
            RingPlanes x = of(n);
            x.product(n - 1, n - 1, 0);
            due(n + ": exchange() with a square", 0, x.exchange());
            x.product(0, n - 1, 1);
            due(n + ": exchange() with one product", 2, x.exchange());
            due(n + ": 0 * last", 0, x.by(0, n - 1, 2));
            due(n + ": last * 0", 1, x.by(n - 1, 0, 2));
            due(n + ": last * last stays", 0, x.by(n - 1, n - 1, 2));
        }
    }

    /** The same: all but the squares at most. */
    void countsAllButTheSquares() {
        for (int n : SIZES) {
            RingPlanes x = ring(n, (a, b) -> a);
            due(n + ": exchange()", n * n - n, x.exchange());
            products(n + " exchanged", x, n, (a, b) -> b);
            due(n + ": exchange() back", n * n - n, x.exchange());
            products(n + " exchanged back", x, n, (a, b) -> a);
        }
    }

    /** "a * b becomes what b * a was": all products of the twisted ring, its last element included. */
    void changesTheSidesOfAllProducts() {
        RingPlanes before = twisted();
        RingPlanes x = twisted();
        due("exchange()", 24, x.exchange());
        products("exchanged", x, 9, (a, b) -> before.by(b, a, 2));
    }

    /** "The changes are the calls of .. exchange ..": also if no product is another one. */
    void isAChangeAlsoWithoutOtherProducts() {
        RingPlanes x = new RingPlanes();
        x.exchange();
        due("count(4)", 1, x.count(4));
        x.product(0, 2, 1);
        x.exchange();
        due("count(4)", 3, x.count(4));
        due("undo()", 2, x.undo());
        due("0 * 2", 1, x.by(0, 2, 2));
        due("2 * 0", 0, x.by(2, 0, 2));
        due("undo()", 1, x.undo());
        due("undo()", 0, x.undo());
    }
}

/** Promise 3: twist. */
public final class Promise03Test extends PromiseTests {
    public static void main(String[] args) {
        new Promise03Test().run();
    }

    /** "NOT_POSSIBLE if there are not 9 elements". */
    void refusesOtherSizes() {
        for (int n : new int[] {2, 3, 4, 5, 7}) {
            leaves("twist() of " + n, IMPOSSIBLE, () -> busy(n), RingPlanes::twist);
            leaves("twist() of a changed " + n, IMPOSSIBLE, () -> busyNoPlane(n), RingPlanes::twist);
        }
        due("twist() of a new object", IMPOSSIBLE, new RingPlanes().twist());
    }

    /** It is the present number of elements that counts. */
    void looksAtThePresentSize() {
        RingPlanes x = of(9);
        x.field(7);
        due("twist() of 7", IMPOSSIBLE, x.twist());
        x.undo();
        due("twist() of 9 again", 24, x.twist());
        x.undo();
        x.undo();
        due("twist() of 3 again", IMPOSSIBLE, x.twist());
    }

    /** "The product of the field, if b is 0 or a square of an element of the field". */
    void leavesProductsByZeroAndSquares() {
        RingPlanes x = twisted();
        for (int b : new int[] {0, 1, 2, 3, 6}) {
            for (int a = 0; a < 9; a++) {
                due(a + " * " + b, fieldProduct(9, a, b), x.by(a, b, 2));
            }
        }
    }

    /** "Otherwise the product of the field of a times itself times a, and b". */
    void twistsProductsByOthers() {
        RingPlanes x = twisted();
        for (int b : new int[] {4, 5, 7, 8}) {
            for (int a = 0; a < 9; a++) {
                int cube = fieldProduct(9, fieldProduct(9, a, a), a);
                due(a + " * " + b, fieldProduct(9, cube, b), x.by(a, b, 2));
            }
            due("3 * " + b + " is another one", fieldProduct(9, 6, b), x.by(3, b, 2));
        }
    }

    /** "Returns how many products are other ones than ahead of it": from none to all. */
    void countsProductsThatAreOtherOnes() {
        RingPlanes x = of(9);
        due("twist()", 24, x.twist());
        due("twist() again", 0, x.twist());
        x.product(8, 8, 3);
        due("twist() after one product", 1, x.twist());
        x.exchange();
        due("twist() after exchange()", 24, x.twist());
        RingPlanes none = ring(9, (a, b) -> (x.by(a, b, 2) + 1) % 9);
        due("twist() when no product is a twisted one", 81, none.twist());
    }

    /** "Makes the products the twisted ones of 9": also those that were set by hand. */
    void leavesNoProductSetByHand() {
        RingPlanes x = ring(9, (a, b) -> 8);
        x.twist();
        RingPlanes due = twisted();
        products("twisted", x, 9, (a, b) -> due.by(a, b, 2));
    }

    /** "The changes are the calls of .. twist ..": also if no product is another one. */
    void isAChangeAlsoWithoutOtherProducts() {
        RingPlanes x = twisted();
        due("count(4)", 2, x.count(4));
        x.twist();
        due("count(4) after twist() again", 3, x.count(4));
        due("undo()", 2, x.undo());
        due("count(2)", 24, x.count(2));
        due("undo()", 1, x.undo());
        due("count(2)", 0, x.count(2));
    }
}

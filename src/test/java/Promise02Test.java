/** Promise 2: field. */
public final class Promise02Test extends PromiseTests {
    public static void main(String[] args) {
        new Promise02Test().run();
    }

    /** "n: 2, 3, 4, 5, 7 or 9". */
    void takesEachSize() {
        for (int n : SIZES) {
            RingPlanes x = new RingPlanes();
            due("field(" + n + ")", 3, x.field(n));
            due(n + ": count(0)", n, x.count(0));
            due(n + ": count(1)", n * n + n + 1, x.count(1));
            due(n + ": plane(0)", 1, x.plane(0));
        }
    }

    /** "INVALID_ARGUMENT if n is none of these". */
    void refusesOtherSizes() {
        for (int n : new int[] {-9, -3, 0, 1, 6, 8, 10, 11, 13, 16, 25, 27, 256 + 9}) {
            leaves("field(" + n + ")", INVALID, () -> busy(7), x -> x.field(n));
        }
        for (int n : FAR) {
            leaves("field(" + n + ")", INVALID, () -> busy(3), x -> x.field(n));
        }
    }

    /** "Returns how many elements there were". */
    void tellsTheSizeBefore() {
        for (int before : SIZES) {
            for (int n : SIZES) {
                RingPlanes x = of(before);
                due("field(" + n + ") after " + before, before, x.field(n));
                due("field(3) after " + n, n, x.field(3));
            }
        }
    }

    /** "A ring has n elements, 0 to n - 1". */
    void hasElementsBelowN() {
        for (int before : SIZES) {
            for (int n : SIZES) {
                RingPlanes x = of(before);
                x.field(n);
                due(n + ": by(last, last, 1)", 0, x.by(n - 1, n - 1, 1));
                due(n + ": by(n, 0, 0)", INVALID, x.by(n, 0, 0));
                due(n + ": by(0, n, 0)", INVALID, x.by(0, n, 0));
                due(n + ": product(last, last, last)", fieldProduct(n, n - 1, n - 1), x.product(n - 1, n - 1, n - 1));
                due(n + ": product(0, 0, n)", INVALID, x.product(0, 0, n));
            }
        }
    }

    /** "Elements are added so: for n = 4, by exclusive or ..; for n = 9 .. modulo 3 each ..; otherwise modulo n". */
    void wrapsSums() {
        for (int n : SIZES) {
            RingPlanes x = of(n);
            for (int a = 0; a < n; a++) {
                for (int b = 0; b < n; b++) {
                    due(n + ": " + a + " + " + b, sum(n, a, b), x.by(a, b, 0));
                }
            }
        }
        due("2: 1 + 1", 0, of(2).by(1, 1, 0));
        due("4: 3 + 1", 2, of(4).by(3, 1, 0));
        due("5: 4 + 1", 0, of(5).by(4, 1, 0));
        due("7: 6 + 6", 5, of(7).by(6, 6, 0));
        due("9: 2 + 1, nothing is carried", 0, of(9).by(2, 1, 0));
        due("9: 6 + 3", 0, of(9).by(6, 3, 0));
        due("9: 8 + 1", 6, of(9).by(8, 1, 0));
    }

    /** "At first they are those of a field: modulo n, but for 4 .. and for 9 .., modulo 3 each". */
    void hasTheProductsOfTheField() {
        for (int n : SIZES) {
            products("field " + n, of(n), n, (a, b) -> fieldProduct(n, a, b));
        }
        due("4: 2 * 2", 3, of(4).by(2, 2, 2));
        due("4: 2 * 3", 1, of(4).by(2, 3, 2));
        due("4: 3 * 3", 2, of(4).by(3, 3, 2));
        due("9: 3 * 3 is -1", 2, of(9).by(3, 3, 2));
        due("9: 6 * 6 is -1, too", 2, of(9).by(6, 6, 2));
        due("9: 6 * 3 is -2", 1, of(9).by(6, 3, 2));
    }

    /** "Makes the ring a field": products that were set by hand are so no more, in a ring of each size. */
    void leavesNoProductFromBefore() {
        for (int before : SIZES) {
            for (int n : SIZES) {
                RingPlanes x = of(before);
                x.product(0, 0, before - 1);
                x.product(1, 1, 0);
                x.product(before - 1, before - 1, 0);
                x.field(n);
                due("count(2) of " + n + " after " + before, 0, x.count(2));
                products(n + " after " + before, x, n, (a, b) -> fieldProduct(n, a, b));
            }
        }
        RingPlanes nine = twisted();
        nine.field(9);
        due("count(2) of 9 after twist()", 0, nine.count(2));
    }

    /** "The changes are the calls of field ..": also if the ring is the same field as before. */
    void isAChangeAlsoOfTheSameField() {
        for (int n : SIZES) {
            RingPlanes x = of(n);
            due("field(" + n + ") again", n, x.field(n));
            due("count(4)", 2, x.count(4));
            due("undo()", 1, x.undo());
            due("count(0)", n, x.count(0));
        }
    }

    /** "Each change records everything before it but the text": the size and the products. */
    void isUndone() {
        for (int before : SIZES) {
            for (int n : SIZES) {
                RingPlanes x = of(before);
                x.product(before - 1, before - 1, 0);
                x.field(n);
                due("undo() of field(" + n + ")", 2, x.undo());
                due("count(0) of " + before + " again", before, x.count(0));
                products(before + " again", x, before,
                        (a, b) -> a == before - 1 && b == a ? 0 : fieldProduct(before, a, b));
            }
        }
    }

    /** The text is nothing of the ring: it stays. */
    void leavesTheText() {
        RingPlanes x = with(FULL_TEXT);
        x.field(9);
        due("count(5)", 60, x.count(5));
        due("fault(0)", MISSING, x.fault(0));
        due("play()", 10, x.play());
    }

    /** "If there is no element, point or line with a certain number": a smaller ring has fewer. */
    void hasPointsAndLinesOfItsSize() {
        for (int n : SIZES) {
            RingPlanes x = of(9);
            x.field(n);
            due(n + ": on(last, last)", 1, x.on(last(n), last(n)));
            due(n + ": on(last + 1, last)", INVALID, x.on(last(n) + 1, last(n)));
            due(n + ": on(last, last + 1)", INVALID, x.on(last(n), last(n) + 1));
        }
    }
}

/** Promise 4: product. */
public final class Promise04Test extends PromiseTests {
    public static void main(String[] args) {
        new Promise04Test().run();
    }

    /** "a: element; b: element; result: element": from 0 to n - 1. */
    void takesTheFirstAndTheLastElement() {
        for (int n : SIZES) {
            int[] ends = {0, n - 1};
            for (int a : ends) {
                for (int b : ends) {
                    for (int result : ends) {
                        RingPlanes x = of(n);
                        String told = n + ": product(" + a + ", " + b + ", " + result + ")";
                        due(told, fieldProduct(n, a, b), x.product(a, b, result));
                        products("after " + told, x, n,
                                (c, d) -> c == a && d == b ? result : fieldProduct(n, c, d));
                    }
                }
            }
        }
    }

    /** "If there is no element .. with a certain number, this is INVALID_ARGUMENT." */
    void refusesWhatIsNoElement() {
        for (int n : SIZES) {
            for (int bad : new int[] {n, n + 1, 10, -1}) {
                leaves(n + ": product(" + bad + ", 0, 1)", INVALID, () -> busy(n), x -> x.product(bad, 0, 1));
                leaves(n + ": product(0, " + bad + ", 1)", INVALID, () -> busy(n), x -> x.product(0, bad, 1));
                leaves(n + ": product(0, 0, " + bad + ")", INVALID, () -> busy(n), x -> x.product(0, 0, bad));
            }
        }
        for (int bad : FAR) {
            leaves("product(" + bad + ", 1, 1)", INVALID, () -> busy(3), x -> x.product(bad, 1, 1));
            leaves("product(1, " + bad + ", 1)", INVALID, () -> busy(3), x -> x.product(1, bad, 1));
            leaves("product(1, 1, " + bad + ")", INVALID, () -> busy(3), x -> x.product(1, 1, bad));
            leaves("product of " + bad + " alone", INVALID, () -> busy(3), x -> x.product(bad, bad, bad));
        }
    }

    /** "Returns what a * b was": not what it becomes, nor what b * a is. */
    void tellsWhatItWas() {
        RingPlanes x = of(9);
        due("product(4, 5, 0)", 1, x.product(4, 5, 0));
        due("product(5, 4, 2)", 1, x.product(5, 4, 2));
        due("product(4, 5, 8)", 0, x.product(4, 5, 8));
        due("product(5, 4, 0)", 2, x.product(5, 4, 0));
        due("product(4, 5, 8) again", 8, x.product(4, 5, 8));
    }

    /** "Sets a product by hand": b * a stays. */
    void leavesTheOtherSide() {
        RingPlanes x = of(7);
        x.product(2, 6, 0);
        due("2 * 6", 0, x.by(2, 6, 2));
        due("6 * 2", 5, x.by(6, 2, 2));
    }

    /** "The changes are the calls of .. product ..": also if the product was the same. */
    void isAChangeAlsoIfItWasSo() {
        RingPlanes x = new RingPlanes();
        due("product(2, 2, 1)", 1, x.product(2, 2, 1));
        due("count(4)", 1, x.count(4));
        due("undo()", 0, x.undo());
        due("2 * 2", 1, x.by(2, 2, 2));
    }

    /** "Rings with products that are set by hand need not fulfil any law." */
    void mayBreakEveryLaw() {
        RingPlanes x = new RingPlanes();
        x.product(1, 1, 0);
        x.product(0, 1, 1);
        x.product(1, 2, 0);
        x.product(2, 2, 0);
        x.product(2, 1, 0);
        for (int law = 0; law < 8; law++) {
            due("law(" + law + ", 0)", 0, x.law(law, 0));
        }
    }

    /** "Each change records everything before it": one product is given back by each undo(). */
    void isUndone() {
        RingPlanes x = of(9);
        x.product(8, 8, 7);
        x.product(8, 8, 5);
        x.product(0, 8, 3);
        due("undo()", 3, x.undo());
        due("0 * 8", 0, x.by(0, 8, 2));
        due("8 * 8", 5, x.by(8, 8, 2));
        due("undo()", 2, x.undo());
        due("8 * 8", 7, x.by(8, 8, 2));
        due("undo()", 1, x.undo());
        due("8 * 8", 6, x.by(8, 8, 2));
    }
}

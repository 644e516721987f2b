/** Promise 18: count. */
public final class Promise18Test extends PromiseTests {
    public static void main(String[] args) {
        new Promise18Test().run();
    }

    /** "INVALID_ARGUMENT if what is out of range": it is 0 to 5. */
    void refusesWhatIsNoKind() {
        RingPlanes x = busy(9);
        due("count(6)", INVALID, x.count(6));
        due("count(7)", INVALID, x.count(7));
        for (int bad : FAR) {
            due("count(" + bad + ")", INVALID, x.count(bad));
        }
        leaves("count(-1)", INVALID, () -> busyNoPlane(4), y -> y.count(-1));
        leaves("count(6)", INVALID, () -> busyNoPlane(4), y -> y.count(6));
    }

    /** "0: n; 1: points": from the smallest to the largest ring. */
    void countsElementsAndPoints() {
        int[] points = {7, 13, 21, 31, 57, 91};
        for (int k = 0; k < SIZES.length; k++) {
            RingPlanes x = of(SIZES[k]);
            due("count(0) of " + SIZES[k], SIZES[k], x.count(0));
            due("count(1) of " + SIZES[k], points[k], x.count(1));
            due("the last point", points[k] - 1, x.at(points[k] - 1, 0, SIZES[k]));
        }
    }

    /** "2: products that are other ones than those of the field": from none to all. */
    void countsProductsUnlikeTheField() {
        for (int n : SIZES) {
            due(n + ": count(2)", 0, of(n).count(2));
            RingPlanes all = ring(n, (a, b) -> (fieldProduct(n, a, b) + 1) % n);
            due(n + ", all are other ones: count(2)", n * n, all.count(2));
            all.product(n - 1, n - 1, fieldProduct(n, n - 1, n - 1));
            due(n + ", all but the last: count(2)", n * n - 1, all.count(2));
            all.field(n);
            due(n + ", none again: count(2)", 0, all.count(2));
            RingPlanes first = noPlane(n);
            due(n + ", the first alone: count(2)", 1, first.count(2));
        }
        due("twisted: count(2)", 24, twisted().count(2));
    }

    /** "3: products that are 0": from none to all. */
    void countsProductsThatAreZero() {
        for (int n : SIZES) {
            due(n + ": count(3)", 2 * n - 1, of(n).count(3));
            RingPlanes all = ring(n, (a, b) -> 0);
            due(n + ", all are 0: count(3)", n * n, all.count(3));
            all.product(n - 1, n - 1, n - 1);
            due(n + ", all but the last are 0: count(3)", n * n - 1, all.count(3));
            RingPlanes none = ring(n, (a, b) -> n - 1);
            due(n + ", none is 0: count(3)", 0, none.count(3));
            none.product(0, 0, 0);
            due(n + ", the first alone is 0: count(3)", 1, none.count(3));
        }
    }

    /** "4: states in the history": "at most 4 states". */
    void countsStatesUpToFour() {
        RingPlanes x = new RingPlanes();
        for (int changes = 0; changes < 12; changes++) {
            due("count(4) after " + changes + " changes", Math.min(changes, 4), x.count(4));
            x.product(1, 1, changes % 3);
        }
        for (int left = 3; left >= 0; left--) {
            x.undo();
            due("count(4) after undo()", left, x.count(4));
        }
        x.undo();
        due("count(4) after undo() of nothing", 0, x.count(4));
    }

    /** "5: the length of the text": "at most 60 characters". */
    void countsCharactersUpToSixty() {
        RingPlanes x = new RingPlanes();
        for (int typed = 0; typed < 63; typed++) {
            due("count(5) after " + typed + " characters", Math.min(typed, 60), x.count(5));
            x.type(' ');
        }
        x.clearText();
        due("count(5) after clearText()", 0, x.count(5));
    }

    /** What count() answers is no change. */
    void isNoChange() {
        int[] due = {4, 21, 1, 6, 4, 12};
        for (int what = 0; what < 6; what++) {
            int kind = what;
            leaves("count(" + what + ")", due[what], () -> busyNoPlane(4), x -> x.count(kind));
        }
    }
}

/** Promise 8: elements. */
public final class Promise08Test extends PromiseTests {
    public static void main(String[] args) {
        new Promise08Test().run();
    }

    /** "INVALID_ARGUMENT if what is out of range": it is 0, 1 or 2. */
    void refusesWhatIsNoKind() {
        RingPlanes x = of(9);
        due("elements(3)", INVALID, x.elements(3));
        for (int bad : FAR) {
            due("elements(" + bad + ")", INVALID, x.elements(bad));
        }
        leaves("elements(-1)", INVALID, () -> busyNoPlane(4), y -> y.elements(-1));
        leaves("elements(3)", INVALID, () -> busyNoPlane(4), y -> y.elements(3));
    }

    /** "Returns the set (bit k for the element k)": all elements of a field, and no bit beyond. */
    void tellsAllOfAField() {
        for (int n : SIZES) {
            for (int what = 0; what < 3; what++) {
                due(n + ": elements(" + what + ")", (1 << n) - 1, of(n).elements(what));
            }
        }
    }

    /** The same: the empty set is 0. */
    void tellsNone() {
        for (int n : SIZES) {
            due(n + ", a * b is a: elements(0)", 0, ring(n, (a, b) -> a).elements(0));
            due(n + ", a * b is 1: elements(1)", 0, ring(n, (a, b) -> 1).elements(1));
        }
        for (int n : new int[] {3, 5, 7}) {
            due(n + ", a - b: elements(2)", 0, ring(n, (a, b) -> (a - b + n) % n).elements(2));
        }
    }

    /** The same: the first element alone, and the last one alone. */
    void tellsTheFirstOrTheLastAlone() {
        for (int n : SIZES) {
            due(n + ", only x * 0 is 0: elements(1)", 1, ring(n, (a, b) -> b == 0 ? 0 : 1).elements(1));
            due(n + ", only x * last is 0: elements(1)", 1 << n - 1,
                    ring(n, (a, b) -> b == n - 1 ? 0 : 1).elements(1));
        }
        // of differences 0 - b is a product that goes apart, and no other one is
        due("5, b - a: elements(1)", 1, ring(5, (a, b) -> (a - b + 5) % 5).elements(1));
    }

    /** "0: those that commute with all elements (a * b is b * a)": two do not for each product that was set. */
    void tellsThoseThatCommute() {
        for (int n : SIZES) {
            RingPlanes x = of(n);
            x.product(0, n - 1, 1);
            due(n + ", 0 * last is 1: elements(0)", (1 << n) - 1 - 1 - (1 << n - 1), x.elements(0));
            x.product(n - 1, 0, 1);
            due(n + ", last * 0 is 1, too: elements(0)", (1 << n) - 1, x.elements(0));
        }
        due("twisted: elements(0)", 7, twisted().elements(0));
    }

    /** "1: those by which products go apart on the right", not on the left. */
    void tellsThoseByWhichProductsGoApartOnTheRight() {
        RingPlanes x = twisted();
        due("twisted: elements(1)", 511, x.elements(1));
        x.exchange();
        due("exchanged: elements(1)", 7, x.elements(1));
        RingPlanes four = of(4);
        four.product(3, 2, 3);
        due("3 * 2 is 3: elements(1)", 15 - 4, four.elements(1));
    }

    /** "2: those a with (a * b) * c = a * (b * c) for all b and c": a stands first, not in the middle or last. */
    void tellsThoseThatStandFirst() {
        RingPlanes x = of(2);
        x.product(0, 0, 1);
        x.product(0, 1, 1);
        // (0 * b) * 0 is 0 and 0 * (b * 0) is 1; (1 * b) * c is b * c
        due("0 * b is 1: elements(2)", 2, x.elements(2));
        due("exchanged twisted: elements(2)", 511, exchanged().elements(2));
        RingPlanes three = new RingPlanes();
        three.product(2, 1, 0);
        three.product(2, 2, 2);
        // (2 * 1) * 2 is 0, 2 * (1 * 2) is 2; (1 * b) * c is b * c, and 0 in front makes all 0
        due("2 * 1 is 0, 2 * 2 is 2: elements(2)", 3, three.elements(2));
    }

    private static RingPlanes exchanged() {
        RingPlanes x = twisted();
        x.exchange();
        return x;
    }

    /** What elements() answers is no change. */
    void isNoChange() {
        for (int what = 0; what < 3; what++) {
            int kind = what;
            leaves("elements(" + what + ")", 15, () -> busy(4), x -> x.elements(kind));
        }
    }
}

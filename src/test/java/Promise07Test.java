/** Promise 7: law. */
public final class Promise07Test extends PromiseTests {
    public static void main(String[] args) {
        new Promise07Test().run();
    }

    private void witness(String told, RingPlanes x, int law, int a, int b, int c) {
        due(told + ": law(" + law + ", 0)", 0, x.law(law, 0));
        due(told + ": law(" + law + ", 1)", a, x.law(law, 1));
        due(told + ": law(" + law + ", 2)", b, x.law(law, 2));
        due(told + ": law(" + law + ", 3)", c, x.law(law, 3));
    }

    /** "law: 0 to 7". */
    void refusesWhatIsNoLaw() {
        for (int what = 0; what < 4; what++) {
            RingPlanes x = new RingPlanes();
            due("law(8, " + what + ")", INVALID, x.law(8, what));
            due("law(9, " + what + ")", INVALID, x.law(9, what));
            for (int bad : FAR) {
                due("law(" + bad + ", " + what + ")", INVALID, x.law(bad, what));
            }
        }
        leaves("law(-1, 0)", INVALID, () -> busyNoPlane(4), x -> x.law(-1, 0));
        leaves("law(8, 1)", INVALID, () -> busyNoPlane(4), x -> x.law(8, 1));
    }

    /** "what: 0 .. 3". */
    void refusesWhatIsNoKind() {
        for (int law = 0; law < 8; law++) {
            RingPlanes x = new RingPlanes();
            due("law(" + law + ", 4)", INVALID, x.law(law, 4));
            for (int bad : FAR) {
                due("law(" + law + ", " + bad + ")", INVALID, x.law(law, bad));
            }
        }
        leaves("law(0, -1)", INVALID, () -> busyNoPlane(4), x -> x.law(0, -1));
        leaves("law(7, 4)", INVALID, () -> busyNoPlane(4), x -> x.law(7, 4));
    }

    /** "0: 1 if it holds"; "NOT_FOUND for 1 to 3 if it holds": in each field. */
    void holdsInFields() {
        for (int n : SIZES) {
            RingPlanes x = of(n);
            for (int law = 0; law < 8; law++) {
                due(n + ": law(" + law + ", 0)", 1, x.law(law, 0));
                for (int what = 1; what < 4; what++) {
                    due(n + ": law(" + law + ", " + what + ")", MISSING, x.law(law, what));
                }
            }
        }
        leaves("law(0, 1) that holds", MISSING, () -> busy(4), x -> x.law(0, 1));
        leaves("law(7, 3) that holds", MISSING, () -> busy(9), x -> x.law(7, 3));
        leaves("law(7, 0) that holds", 1, () -> busy(4), x -> x.law(7, 0));
    }

    /** "INVALID_ARGUMENT is returned rather than .. NOT_FOUND". */
    void isInvalidRatherThanNotFound() {
        RingPlanes x = of(5);
        due("law(8, 1), where all laws hold", INVALID, x.law(8, 1));
        due("law(-1, 3), where all laws hold", INVALID, x.law(-1, 3));
        due("law(7, 4), which holds", INVALID, x.law(7, 4));
        due("law(0, -1), which holds", INVALID, x.law(0, -1));
    }

    /** "0: 0 * a and a * 0 are 0": on either side, for the first and the last a; b and c are not needed. */
    void breaksLaw0AtTheEnds() {
        for (int n : SIZES) {
            RingPlanes x = of(n);
            x.product(0, n - 1, 1);
            witness(n + ": 0 * last is 1", x, 0, n - 1, 0, 0);
            x.exchange();
            witness(n + ": last * 0 is 1", x, 0, n - 1, 0, 0);
            x.product(0, 0, n - 1);
            witness(n + ": 0 * 0 is the last", x, 0, 0, 0, 0);
        }
    }

    /** "1: 1 * a and a * 1 are a": the same. */
    void breaksLaw1AtTheEnds() {
        for (int n : SIZES) {
            RingPlanes x = of(n);
            x.product(1, n - 1, 0);
            witness(n + ": 1 * last is 0", x, 1, n - 1, 0, 0);
            x.exchange();
            witness(n + ": last * 1 is 0", x, 1, n - 1, 0, 0);
            x.product(0, 1, 1);
            witness(n + ": 0 * 1 is 1", x, 1, 0, 0, 0);
            x.exchange();
            witness(n + ": 1 * 0 is 1", x, 1, 0, 0, 0);
        }
    }

    /** "2: a * (b + c) is a * b + a * c", and 3 with the sides changed: the first row of all, and later ones. */
    void breaksLaws2And3InOrder() {
        for (int n : SIZES) {
            RingPlanes x = noPlane(n);
            witness(n + ": 0 * 0 is 1", x, 2, 0, 0, 0);
            witness(n + ": 0 * 0 is 1", x, 3, 0, 0, 0);
            RingPlanes late = of(n);
            late.product(n - 1, 0, 1);
            witness(n + ": last * 0 is 1", late, 2, n - 1, 0, 0);
            late.exchange();
            witness(n + ": 0 * last is 1", late, 3, 0, 0, n - 1);
        }
        RingPlanes x = twisted();
        witness("twisted", x, 2, 3, 1, 3);
        due("twisted: law(3, 0)", 1, x.law(3, 0));
        x.exchange();
        witness("exchanged", x, 3, 1, 3, 3);
        due("exchanged: law(2, 0)", 1, x.law(2, 0));
    }

    /** "4: (a * b) * c is a * (b * c)": by the first row, whose c comes last. */
    void breaksLaw4InOrder() {
        RingPlanes x = noPlane(3);
        // 0 * 0 is 1, 0 * 2 is 0: (0 * 0) * 2 is 2, 0 * (0 * 2) is 1
        witness("0 * 0 is 1", x, 4, 0, 0, 2);
        // a - b: (0 - 0) - 1 is 2, 0 - (0 - 1) is 1
        witness("differences", ring(3, (a, b) -> (a - b + 3) % 3), 4, 0, 0, 1);
        RingPlanes two = ring(2, (a, b) -> 1 - b);
        // (a * b) * c is 1 - c, a * (b * c) is c
        witness("1 - b", two, 4, 0, 0, 0);
        due("a * b is b: law(4, 0)", 1, ring(9, (a, b) -> b).law(4, 0));
    }

    /** "5: a * b is b * a": the first and the last pair; c is not needed. */
    void breaksLaw5AtTheEnds() {
        for (int n : SIZES) {
            RingPlanes x = of(n);
            x.product(n - 1, n - 2, (fieldProduct(n, n - 1, n - 2) + 1) % n);
            witness(n + ": last * one below", x, 5, n - 2, n - 1, 0);
            x.product(1, 0, 1);
            witness(n + ": 1 * 0 is 1", x, 5, 0, 1, 0);
            x.product(0, 1, 1);
            x.product(0, n - 1, n - 1);
            x.product(n - 1, 0, 0);
            witness(n + ": 0 * last", x, 5, 0, n - 1, 0);
        }
    }

    /** "6: for a and b that are not the same, the elements a * x - b * x for all x are unlike". */
    void breaksLaw6AtTheEnds() {
        for (int n : SIZES) {
            RingPlanes x = of(n);
            x.product(n - 1, 0, 1);
            witness(n + ": last * 0 is 1", x, 6, 0, n - 1, 0);
            RingPlanes same = ring(n, (a, b) -> fieldProduct(n, Math.min(a, n - 2), b));
            witness(n + ": the last two rows are the same", same, 6, n - 2, n - 1, 0);
            x.product(1, 0, 1);
            witness(n + ": 1 * 0 is 1, too", x, 6, 0, 1, 0);
        }
    }

    /** "7: for a and b that are not the same, the elements x * a - x * b for all x are unlike". */
    void breaksLaw7AtTheEnds() {
        for (int n : SIZES) {
            RingPlanes x = of(n);
            x.product(0, n - 1, 1);
            witness(n + ": 0 * last is 1", x, 7, 0, n - 1, 0);
            RingPlanes same = ring(n, (a, b) -> fieldProduct(n, a, Math.min(b, n - 2)));
            witness(n + ": the last two columns are the same", same, 7, n - 2, n - 1, 0);
            x.product(0, 1, 1);
            witness(n + ": 0 * 1 is 1, too", x, 7, 0, 1, 0);
        }
    }

    /** Laws 6 and 7 look at differences alone: they hold though a row does not begin with 0. */
    void holdsForRowsThatAreShifted() {
        for (int n : SIZES) {
            RingPlanes x = of(n);
            for (int b = 0; b < n; b++) {
                x.product(n - 1, b, sum(n, fieldProduct(n, n - 1, b), 1));
            }
            due(n + ": law(0, 0)", 0, x.law(0, 0));
            due(n + ": law(6, 0)", 1, x.law(6, 0));
            due(n + ": law(6, 1)", MISSING, x.law(6, 1));
            due(n + ": law(7, 0)", 1, x.law(7, 0));
            due(n + ": law(7, 2)", MISSING, x.law(7, 2));
        }
    }

    /** "The first row of elements (a, b, c), in order": a lower a before a lower b or c. */
    void tellsTheFirstOfManyWitnesses() {
        RingPlanes x = of(4);
        x.product(2, 0, 1);
        witness("2 * 0 is 1", x, 2, 2, 0, 0);
        x.product(1, 3, 0);
        // 1 * (1 + 2) is 0, 1 * 1 + 1 * 2 is 3
        witness("1 * 3 is 0, too", x, 2, 1, 1, 2);
        x.product(0, 3, 2);
        witness("0 * 3 is 2, too", x, 2, 0, 1, 2);
        witness("0 * 3 is 2, too", x, 0, 2, 0, 0);
    }
}

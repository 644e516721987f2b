/** Promises 1 to 8: a new object, fields, twisted products, changed products, laws and elements. */
public final class RingsTest {
    private static final int INVALID = -1000001;
    private static final int IMPOSSIBLE = -1000002;
    private static final int MISSING = -1000004;

    private final Check check = new Check("RingsTest");

    public static void main(String[] args) {
        RingsTest test = new RingsTest();
        test.promise1();
        test.promise2();
        test.promise3();
        test.promise4();
        test.promise5();
        test.promise6();
        test.promise7Witnesses();
        test.promise7Differences();
        test.promise8();
        test.check.end();
    }

    private static RingPlanes of(int n) {
        RingPlanes x = new RingPlanes();
        x.field(n);
        return x;
    }

    private void products(String name, RingPlanes x, int[][] table) {
        for (int a = 0; a < table.length; a++) {
            for (int b = 0; b < table.length; b++) {
                check.due(name + ": " + a + " * " + b, table[a][b], x.by(a, b, 2));
            }
        }
    }

    private void promise1() {
        RingPlanes x = new RingPlanes();
        check.due("new: count(0)", 3, x.count(0));
        check.due("new: count(1)", 13, x.count(1));
        check.due("new: count(2)", 0, x.count(2));
        check.due("new: count(4)", 0, x.count(4));
        check.due("new: count(5)", 0, x.count(5));
        products("new", x, new int[][] {{0, 0, 0}, {0, 1, 2}, {0, 2, 1}});
        check.due("new: undo()", IMPOSSIBLE, x.undo());
        x.product(0, 0, 1);
        check.due("another new: 0 * 0", 0, new RingPlanes().by(0, 0, 2));
    }

    private void promise2() {
        RingPlanes x = new RingPlanes();
        int before = 3;
        for (int n = -1; n <= 12; n++) {
            boolean good = n == 2 || n == 3 || n == 4 || n == 5 || n == 7 || n == 9;
            int states = x.count(4);
            check.due("field(" + n + ")", good ? before : INVALID, x.field(n));
            before = good ? n : before;
            check.due("n after field(" + n + ")", before, x.count(0));
            check.due("states after field(" + n + ")", good ? Math.min(4, states + 1) : states, x.count(4));
        }
        check.due("field(MIN_VALUE)", INVALID, x.field(Integer.MIN_VALUE));
        check.due("field(MAX_VALUE)", INVALID, x.field(Integer.MAX_VALUE));
        products("field 2", of(2), new int[][] {{0, 0}, {0, 1}});
        products("field 4", of(4), new int[][] {{0, 0, 0, 0}, {0, 1, 2, 3}, {0, 2, 3, 1}, {0, 3, 1, 2}});
        products("field 5", of(5), new int[][] {
            {0, 0, 0, 0, 0}, {0, 1, 2, 3, 4}, {0, 2, 4, 1, 3}, {0, 3, 1, 4, 2}, {0, 4, 3, 2, 1}});
        products("field 9", of(9), new int[][] {
            {0, 0, 0, 0, 0, 0, 0, 0, 0}, {0, 1, 2, 3, 4, 5, 6, 7, 8}, {0, 2, 1, 6, 8, 7, 3, 5, 4},
            {0, 3, 6, 2, 5, 8, 1, 4, 7}, {0, 4, 8, 5, 6, 1, 7, 2, 3}, {0, 5, 7, 8, 1, 3, 4, 6, 2},
            {0, 6, 3, 1, 7, 4, 2, 8, 5}, {0, 7, 5, 4, 2, 6, 8, 3, 1}, {0, 8, 4, 7, 3, 2, 5, 1, 6}});
        RingPlanes seven = of(7);
        check.due("field 7: 6 * 6", 1, seven.by(6, 6, 2));
        check.due("field 7: 3 * 5", 1, seven.by(3, 5, 2));
        RingPlanes again = of(5);
        again.product(4, 4, 0);
        check.due("field(5) once more", 5, again.field(5));
        check.due("4 * 4 is of the field again", 1, again.by(4, 4, 2));
        check.due("the same field is a change", 3, again.count(4));
    }

    private void promise3() {
        RingPlanes x = of(9);
        check.due("twist()", 24, x.twist());
        products("twisted", x, new int[][] {
            {0, 0, 0, 0, 0, 0, 0, 0, 0}, {0, 1, 2, 3, 4, 5, 6, 7, 8}, {0, 2, 1, 6, 8, 7, 3, 5, 4},
            {0, 3, 6, 2, 7, 4, 1, 8, 5}, {0, 4, 8, 5, 2, 6, 7, 3, 1}, {0, 5, 7, 8, 3, 2, 4, 1, 6},
            {0, 6, 3, 1, 5, 8, 2, 4, 7}, {0, 7, 5, 4, 6, 1, 8, 2, 3}, {0, 8, 4, 7, 1, 3, 5, 6, 2}});
        check.due("twist() again", 0, x.twist());
        check.due("states", 3, x.count(4));
        x.product(8, 8, 0);
        check.due("twist() after one product", 1, x.twist());
        check.due("8 * 8 is twisted again", 2, x.by(8, 8, 2));
        for (int n : new int[] {2, 3, 4, 5, 7}) {
            RingPlanes other = of(n);
            check.due("twist() of " + n, IMPOSSIBLE, other.twist());
            check.due("states after twist() of " + n, 1, other.count(4));
        }
    }

    private void promise4() {
        RingPlanes x = new RingPlanes();
        check.due("product(2, 1, 0)", 2, x.product(2, 1, 0));
        check.due("2 * 1", 0, x.by(2, 1, 2));
        check.due("1 * 2 stays", 2, x.by(1, 2, 2));
        check.due("product(2, 1, 0) again", 0, x.product(2, 1, 0));
        check.due("a product that was so is a change", 2, x.count(4));
        int[][] wrong = {{-1, 0, 0}, {0, -1, 0}, {0, 0, -1}, {3, 0, 0}, {0, 3, 0}, {0, 0, 3},
            {Integer.MIN_VALUE, 0, 0}, {0, Integer.MAX_VALUE, 0}, {0, 0, Integer.MAX_VALUE}};
        for (int[] row : wrong) {
            String call = "product(" + row[0] + ", " + row[1] + ", " + row[2] + ")";
            check.due(call, INVALID, x.product(row[0], row[1], row[2]));
        }
        check.due("errors change nothing", 2, x.count(4));
        check.due("errors set nothing", 1, x.count(2));
        RingPlanes nine = of(9);
        check.due("product(8, 8, 8)", 6, nine.product(8, 8, 8));
        check.due("8 * 8", 8, nine.by(8, 8, 2));
        check.due("count(2)", 1, nine.count(2));
    }

    private void promise5() {
        RingPlanes x = new RingPlanes();
        check.due("exchange() of a field", 0, x.exchange());
        check.due("it is a change", 1, x.count(4));
        x.product(1, 2, 0);
        check.due("exchange()", 2, x.exchange());
        products("exchanged", x, new int[][] {{0, 0, 0}, {0, 1, 2}, {0, 0, 1}});
        x.product(0, 0, 2);
        check.due("exchange() back", 2, x.exchange());
        products("exchanged back", x, new int[][] {{2, 0, 0}, {0, 1, 0}, {0, 2, 1}});
        RingPlanes nine = of(9);
        nine.twist();
        check.due("exchange() of the twisted ones", 24, nine.exchange());
        check.due("3 * 4", 5, nine.by(3, 4, 2));
        check.due("4 * 3", 7, nine.by(4, 3, 2));
    }

    private void promise6() {
        RingPlanes four = of(4);
        RingPlanes five = of(5);
        RingPlanes nine = of(9);
        check.due("5: 3 + 4", 2, five.by(3, 4, 0));
        check.due("5: 2 + 3", 0, five.by(2, 3, 0));
        check.due("5: 1 + 3", 4, five.by(1, 3, 0));
        check.due("5: 1 - 3", 3, five.by(1, 3, 1));
        check.due("5: 3 - 1", 2, five.by(3, 1, 1));
        check.due("5: 3 - 3", 0, five.by(3, 3, 1));
        check.due("4: 3 + 2", 1, four.by(3, 2, 0));
        check.due("4: 1 + 1", 0, four.by(1, 1, 0));
        check.due("4: 1 - 2", 3, four.by(1, 2, 1));
        check.due("9: 8 + 8", 4, nine.by(8, 8, 0));
        check.due("9: 2 + 1", 0, nine.by(2, 1, 0));
        check.due("9: 7 + 3", 1, nine.by(7, 3, 0));
        check.due("9: 0 - 5", 7, nine.by(0, 5, 1));
        check.due("9: 3 - 1", 5, nine.by(3, 1, 1));
        nine.twist();
        check.due("9: 3 * x = 7", 4, nine.by(3, 7, 3));
        check.due("9: x * 3 = 7", 8, nine.by(3, 7, 4));
        RingPlanes x = new RingPlanes();
        x.product(2, 1, 1);
        check.due("2 * x = 1, the lowest", 1, x.by(2, 1, 3));
        check.due("2 * x = 2", MISSING, x.by(2, 2, 3));
        check.due("x * 2 = 2", 1, x.by(2, 2, 4));
        check.due("x * 1 = 1, the lowest", 1, x.by(1, 1, 4));
        check.due("x * 1 = 2", MISSING, x.by(1, 2, 4));
        check.due("0 * x = 0", 0, x.by(0, 0, 3));
        check.due("x * 0 = 2", MISSING, x.by(0, 2, 4));
        for (int bad : new int[] {-1, 5, Integer.MIN_VALUE, Integer.MAX_VALUE}) {
            check.due("by(0, 0, " + bad + ")", INVALID, x.by(0, 0, bad));
            check.due("by(" + bad + ", 0, 0)", INVALID, x.by(bad, 0, 0));
            check.due("by(0, " + bad + ", 3)", INVALID, x.by(0, bad, 3));
        }
        check.due("by(3, 0, 3)", INVALID, x.by(3, 0, 3));
        check.due("by is no change", 1, x.count(4));
    }

    private void witness(RingPlanes x, int law, int a, int b, int c) {
        check.due("law(" + law + ", 0)", 0, x.law(law, 0));
        check.due("law(" + law + ", 1)", a, x.law(law, 1));
        check.due("law(" + law + ", 2)", b, x.law(law, 2));
        check.due("law(" + law + ", 3)", c, x.law(law, 3));
    }

    private void promise7Witnesses() {
        RingPlanes five = of(5);
        for (int law = 0; law < 8; law++) {
            check.due("field: law(" + law + ", 0)", 1, five.law(law, 0));
            for (int what = 1; what < 4; what++) {
                check.due("field: law(" + law + ", " + what + ")", MISSING, five.law(law, what));
            }
        }
        five.product(0, 4, 1);
        witness(five, 0, 4, 0, 0);
        five.undo();
        five.product(3, 0, 1);
        witness(five, 0, 3, 0, 0);
        five.undo();
        five.product(1, 2, 3);
        witness(five, 1, 2, 0, 0);
        five.undo();
        five.product(4, 1, 0);
        witness(five, 1, 4, 0, 0);
        five.undo();
        five.product(3, 4, 0);
        witness(five, 5, 3, 4, 0);
        RingPlanes nine = of(9);
        nine.twist();
        witness(nine, 2, 3, 1, 3);
        nine.exchange();
        witness(nine, 3, 1, 3, 3);
        RingPlanes three = new RingPlanes();
        three.product(2, 2, 2);
        witness(three, 2, 2, 1, 1);
        witness(three, 3, 1, 1, 2);
        check.due("2 * 2 = 2: law(4, 0)", 1, three.law(4, 0));
        three.product(2, 1, 0);
        witness(three, 4, 2, 1, 2);
        for (int bad : new int[] {-1, Integer.MIN_VALUE, Integer.MAX_VALUE}) {
            check.due("law(" + bad + ", 0)", INVALID, three.law(bad, 0));
            check.due("law(0, " + bad + ")", INVALID, three.law(0, bad));
        }
        check.due("law(8, 1)", INVALID, three.law(8, 1));
        check.due("law(7, 4)", INVALID, three.law(7, 4));
    }

    /** Laws 6 and 7 differ where a row or a column of products is the same as another one. */
    private void promise7Differences() {
        RingPlanes x = new RingPlanes();
        for (int a = 0; a < 3; a++) {
            for (int b = 0; b < 3; b++) {
                x.product(a, b, a);
            }
        }
        witness(x, 6, 0, 1, 0);
        witness(x, 7, 0, 1, 0);
        RingPlanes late = of(5);
        late.product(4, 0, 1);
        witness(late, 6, 0, 4, 0);
        witness(late, 7, 0, 1, 0);
        late.exchange();
        witness(late, 6, 0, 1, 0);
        witness(late, 7, 0, 4, 0);
        RingPlanes shifted = new RingPlanes();
        for (int b = 0; b < 3; b++) {
            shifted.product(0, b, 2);
        }
        check.due("a row that is shifted: law(0, 0)", 0, shifted.law(0, 0));
        check.due("a row that is shifted: law(6, 0)", 1, shifted.law(6, 0));
        check.due("a row that is shifted: law(7, 0)", 1, shifted.law(7, 0));
        check.due("a row that is shifted: plane(0)", 1, shifted.plane(0));
    }

    private void promise8() {
        RingPlanes x = of(9);
        check.due("field: elements(0)", 511, x.elements(0));
        check.due("field: elements(1)", 511, x.elements(1));
        check.due("field: elements(2)", 511, x.elements(2));
        x.twist();
        check.due("twisted: elements(0)", 7, x.elements(0));
        check.due("twisted: elements(1)", 511, x.elements(1));
        check.due("twisted: elements(2)", 511, x.elements(2));
        x.exchange();
        check.due("exchanged: elements(0)", 7, x.elements(0));
        check.due("exchanged: elements(1)", 7, x.elements(1));
        check.due("exchanged: elements(2)", 511, x.elements(2));
        RingPlanes five = of(5);
        five.product(2, 3, 0);
        check.due("2 * 3 = 0: elements(0)", 1 + 2 + 16, five.elements(0));
        check.due("2 * 3 = 0: elements(1)", 31 - 8, five.elements(1));
        RingPlanes two = of(2);
        two.product(0, 0, 1);
        check.due("0 * 0 = 1: elements(0)", 3, two.elements(0));
        check.due("0 * 0 = 1: elements(1)", 2, two.elements(1));
        check.due("0 * 0 = 1: elements(2)", 3, two.elements(2));
        two.product(0, 1, 1);
        // 0 * 0 = 0 * 1 = 1 * 1 = 1 and 1 * 0 = 0: (0 * b) * 0 is 0, but 0 * (b * 0) is 1
        check.due("0 * b = 1: elements(2)", 2, two.elements(2));
        check.due("elements(-1)", INVALID, two.elements(-1));
        check.due("elements(3)", INVALID, two.elements(3));
        check.due("elements(MIN_VALUE)", INVALID, two.elements(Integer.MIN_VALUE));
    }
}

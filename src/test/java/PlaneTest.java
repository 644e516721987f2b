/** Promises 9 to 12: points on lines, rows of points and lines, joins and meets, and whether it is a plane. */
public final class PlaneTest {
    private static final int INVALID = -1000001;
    private static final int MISSING = -1000004;

    private final Check check = new Check("PlaneTest");

    public static void main(String[] args) {
        PlaneTest test = new PlaneTest();
        test.promise9();
        test.promise10();
        test.promise11();
        test.promise12();
        test.check.end();
    }

    private static RingPlanes of(int n) {
        RingPlanes x = new RingPlanes();
        x.field(n);
        return x;
    }

    private void row(RingPlanes x, int number, int which, int... due) {
        for (int index = 0; index < due.length; index++) {
            String call = "at(" + number + ", " + which + ", " + index + ")";
            check.due(call, due[index], x.at(number, which, index));
        }
        check.due("at(" + number + ", " + which + ", behind)", MISSING, x.at(number, which, due.length));
    }

    private void promise9() {
        RingPlanes x = of(2);
        // by point: the lines [0,0] [0,1] [1,0] [1,1] [0] [1] and the last one
        String[] due = {"1010100", "0101100", "1001010", "0110010", "1100001", "0011001", "0000111"};
        for (int point = 0; point < 7; point++) {
            for (int line = 0; line < 7; line++) {
                check.due("on(" + point + ", " + line + ")", due[point].charAt(line) - '0', x.on(point, line));
            }
        }
        check.due("on(7, 0)", INVALID, x.on(7, 0));
        check.due("on(0, 7)", INVALID, x.on(0, 7));
        check.due("on(-1, 0)", INVALID, x.on(-1, 0));
        check.due("on(0, -1)", INVALID, x.on(0, -1));
        check.due("on(MAX_VALUE, 0)", INVALID, x.on(Integer.MAX_VALUE, 0));
        check.due("on(0, MIN_VALUE)", INVALID, x.on(0, Integer.MIN_VALUE));
        RingPlanes nine = of(9);
        nine.twist();
        // (3, y) is on [4, 2] if y = 3 * 4 + 2 = 7 + 2 = 6
        check.due("on(33, 38)", 1, nine.on(33, 38));
        check.due("on(34, 38)", 0, nine.on(34, 38));
        nine.product(3, 4, 0);
        check.due("on(33, 38) after a product", 0, nine.on(33, 38));
        check.due("on(29, 38) after a product", 1, nine.on(29, 38));
        check.due("on(90, 90)", 1, nine.on(90, 90));
        check.due("on(81, 90)", 1, nine.on(81, 90));
        check.due("on(80, 90)", 0, nine.on(80, 90));
        check.due("on(80, 89)", 1, nine.on(80, 89));
        check.due("on(89, 89)", 0, nine.on(89, 89));
        check.due("on(90, 80)", 0, nine.on(90, 80));
        check.due("on(91, 0)", INVALID, nine.on(91, 0));
    }

    private void promise10() {
        RingPlanes x = new RingPlanes();
        row(x, 5, 0, 2, 3, 7, 10);
        row(x, 10, 0, 3, 4, 5, 12);
        row(x, 12, 0, 9, 10, 11, 12);
        row(x, 5, 1, 2, 4, 6, 10);
        row(x, 10, 1, 3, 4, 5, 12);
        row(x, 12, 1, 9, 10, 11, 12);
        x.product(1, 1, 2);
        row(x, 5, 0, 2, 4, 7, 10);
        row(x, 5, 1, 2, 3, 6, 10);
        RingPlanes four = of(4);
        // [2, 3]: (0, 3), (1, 2 + 3), (2, 3 + 3), (3, 1 + 3)
        row(four, 11, 0, 3, 5, 8, 14, 18);
        row(four, 11, 1, 3, 5, 8, 14, 18);
        check.due("at(13, 0, 0)", INVALID, x.at(13, 0, 0));
        check.due("at(-1, 0, 0)", INVALID, x.at(-1, 0, 0));
        check.due("at(-1, 1, 0)", INVALID, x.at(-1, 1, 0));
        check.due("at(0, -1, 0)", INVALID, x.at(0, -1, 0));
        check.due("at(0, 2, 0)", INVALID, x.at(0, 2, 0));
        check.due("at(0, 0, -1)", INVALID, x.at(0, 0, -1));
        check.due("at(0, 1, MIN_VALUE)", INVALID, x.at(0, 1, Integer.MIN_VALUE));
        check.due("at(0, 1, MAX_VALUE)", MISSING, x.at(0, 1, Integer.MAX_VALUE));
        check.due("at(13, 0, 9)", INVALID, x.at(13, 0, 9));
    }

    private void promise11() {
        RingPlanes x = new RingPlanes();
        check.due("join(4, 8, 0)", 3, x.join(4, 8, 0));
        check.due("join(8, 4, 0)", 3, x.join(8, 4, 0));
        check.due("join(9, 11, 0)", 12, x.join(9, 11, 0));
        check.due("join(12, 5, 0)", 10, x.join(12, 5, 0));
        check.due("join(10, 5, 0)", 4, x.join(10, 5, 0));
        check.due("join(0, 3, 1)", 0, x.join(0, 3, 1));
        check.due("join(1, 2, 1)", 9, x.join(1, 2, 1));
        check.due("join(9, 11, 1)", 12, x.join(9, 11, 1));
        check.due("join(12, 5, 1)", 10, x.join(12, 5, 1));
        x.product(1, 1, 2);
        // (0, 0) and (1, 2) are on both [1, 0] and [2, 0] now, (0, 0) and (1, 1) on none
        check.due("join(0, 5, 0), the lowest", 3, x.join(0, 5, 0));
        check.due("join(0, 4, 0)", MISSING, x.join(0, 4, 0));
        check.due("join(4, 0, 0)", MISSING, x.join(4, 0, 0));
        // [1, 0] has (0, 0), (1, 2), (2, 2) and [2, 0] has (0, 0), (1, 2), (2, 1)
        check.due("join(3, 6, 1), the lowest", 0, x.join(3, 6, 1));
        // [2, 1] has (0, 1), (1, 0), (2, 2), and [2, 2] has (0, 2), (1, 1), (2, 0)
        check.due("join(3, 7, 1)", 8, x.join(3, 7, 1));
        check.due("join(3, 8, 1)", MISSING, x.join(3, 8, 1));
        check.due("join(8, 3, 1)", MISSING, x.join(8, 3, 1));
        check.due("join(0, 0, 0)", INVALID, x.join(0, 0, 0));
        check.due("join(12, 12, 1)", INVALID, x.join(12, 12, 1));
        check.due("join(13, 0, 1)", INVALID, x.join(13, 0, 1));
        check.due("join(0, 13, 0)", INVALID, x.join(0, 13, 0));
        check.due("join(-1, 0, 0)", INVALID, x.join(-1, 0, 0));
        check.due("join(0, -1, 1)", INVALID, x.join(0, -1, 1));
        check.due("join(0, 1, -1)", INVALID, x.join(0, 1, -1));
        check.due("join(0, 4, 2)", INVALID, x.join(0, 4, 2));
    }

    private void promise12() {
        for (int n : new int[] {2, 3, 4, 5, 7, 9}) {
            RingPlanes x = of(n);
            check.due("field " + n + ": plane(0)", 1, x.plane(0));
            check.due("field " + n + ": plane(1)", 0, x.plane(1));
            check.due("field " + n + ": plane(2)", 0, x.plane(2));
            x.product(0, 0, 1);
            // 0 * 0 = 1 makes one difference twice and one never, in n - 1 rows for n pairs each
            check.due("0 * 0 = 1 of " + n + ": plane(0)", 0, x.plane(0));
            check.due("0 * 0 = 1 of " + n + ": plane(1)", 2 * n * (n - 1), x.plane(1));
            check.due("0 * 0 = 1 of " + n + ": plane(2)", 2 * n * (n - 1), x.plane(2));
        }
        RingPlanes x = new RingPlanes();
        for (int b = 0; b < 3; b++) {
            x.product(2, b, x.by(1, b, 2));
        }
        // two points (1, y) and (2, y) are on three lines, (1, y) and (2, z) on none;
        // of the lines, each two that are not parallel have no point or two in common, for some of the pairs
        check.due("two same rows: plane(1)", 9, x.plane(1));
        check.due("two same rows: plane(2)", 18, x.plane(2));
        x.exchange();
        check.due("two same columns: plane(1)", 18, x.plane(1));
        check.due("two same columns: plane(2)", 9, x.plane(2));
        check.due("plane(-1)", INVALID, x.plane(-1));
        check.due("plane(3)", INVALID, x.plane(3));
        check.due("plane(MAX_VALUE)", INVALID, x.plane(Integer.MAX_VALUE));
    }
}

/** Promises 13 to 15: triangles seen from a point, and hexagons. */
public final class FiguresTest {
    private static final int INVALID = -1000001;
    private static final int IMPOSSIBLE = -1000002;

    private final Check check = new Check("FiguresTest");

    public static void main(String[] args) {
        FiguresTest test = new FiguresTest();
        test.promise13();
        test.promise13Errors();
        test.promise14();
        test.promise15();
        test.check.end();
    }

    private static RingPlanes of(int n) {
        RingPlanes x = new RingPlanes();
        x.field(n);
        return x;
    }

    private void triangles(RingPlanes x, int due, int... is) {
        StringBuilder call = new StringBuilder("triangles of");
        for (int number : is) {
            call.append(' ').append(number);
        }
        check.due(call.toString(), due, x.triangles(is[0], is[1], is[2], is[3], is[4], is[5]));
    }

    private void promise13() {
        RingPlanes nine = of(9);
        triangles(nine, 1, 0, 0, 3, 9, 0, 2);
        triangles(nine, 1, 10, 0, 3, 9, 0, 2);
        nine.twist();
        triangles(nine, 0, 0, 0, 3, 9, 0, 2);
        triangles(nine, 0, 0, 9, 0, 3, 2, 0);
        triangles(nine, 0, 10, 0, 3, 9, 0, 2);
        triangles(nine, 0, 3, 0, 1, 9, 0, 1);
        // from the point (0) all lines [0, b] are led to each other by shifts: triangles always close
        triangles(nine, 1, 81, 0, 1, 9, 0, 1);
        triangles(nine, IMPOSSIBLE, 81, 0, 1, 2, 0, 1);
        triangles(nine, 1, 90, 0, 3, 9, 1, 2);
        // (0, 0), (3, 0) and the point (0) are on the line [0, 0]
        triangles(nine, IMPOSSIBLE, 90, 0, 3, 9, 0, 2);
        triangles(nine, IMPOSSIBLE, 90, 0, 3, 9, 2, 0);
        triangles(nine, IMPOSSIBLE, 90, 0, 1, 2, 0, 1);
        nine.exchange();
        check.due("exchanged: open triangles from the last point", 1, openOf(nine, 90, 0, 3, 9));
        check.due("exchanged: no open triangles from the first point", 0, openOf(nine, 0, 0, 3, 9));
        RingPlanes three = new RingPlanes();
        triangles(three, 1, 4, 0, 1, 3, 0, 1);
        triangles(three, IMPOSSIBLE, 4, 0, 1, 3, 0, 2);
        triangles(three, IMPOSSIBLE, 4, 0, 1, 2, 0, 1);
        // of two such triangles in the plane of seven points one is always a line
        RingPlanes two = of(2);
        for (int p = 0; p < 7; p++) {
            triangles(two, IMPOSSIBLE, p, 0, 1, 2, 0, 1);
            triangles(two, IMPOSSIBLE, p, 2, 1, 0, 1, 0);
        }
    }

    /** 1 if some triangles on these lines do not close, otherwise 0. */
    private static int openOf(RingPlanes x, int p, int l, int m, int k) {
        for (int i = 0; i < 9; i++) {
            for (int j = 0; j < i; j++) {
                if (x.triangles(p, l, m, k, i, j) == 0) {
                    return 1;
                }
            }
        }
        return 0;
    }

    private void promise13Errors() {
        RingPlanes x = new RingPlanes();
        for (int broken = 0; broken < 2; broken++) {
            for (int place = 0; place < 6; place++) {
                for (int bad : new int[] {-1, place == 0 ? 13 : place < 4 ? 4 : 3, Integer.MIN_VALUE, Integer.MAX_VALUE}) {
                    int[] row = {0, 0, 1, 2, 0, 1};
                    row[place] = bad;
                    triangles(x, INVALID, row);
                }
            }
            triangles(x, INVALID, 0, 1, 1, 2, 0, 1);
            triangles(x, INVALID, 0, 1, 2, 1, 0, 1);
            triangles(x, INVALID, 0, 2, 1, 1, 0, 1);
            triangles(x, INVALID, 0, 0, 1, 2, 2, 2);
            triangles(x, IMPOSSIBLE, 0, 0, 1, 3, broken == 0 ? 2 : 0, broken);
            x.product(1, 1, 2);
        }
        check.due("figures are no changes", 2, x.count(4));
    }

    private void promise14() {
        for (int n : new int[] {2, 3, 4, 5, 7, 9}) {
            RingPlanes x = of(n);
            int last = n * n + n;
            for (int p = 0; p <= last; p += n) {
                check.due("field " + n + ": open(" + p + ")", 0, x.open(p));
            }
            check.due("open(-1)", INVALID, x.open(-1));
            check.due("field " + n + ": open(behind)", INVALID, x.open(last + 1));
            x.product(0, 0, 1);
            check.due("no plane of " + n + ": open(0)", IMPOSSIBLE, x.open(0));
            check.due("no plane of " + n + ": open(last)", IMPOSSIBLE, x.open(last));
            check.due("no plane of " + n + ": open(behind)", INVALID, x.open(last + 1));
        }
        for (int p = 0; p < 91; p++) {
            RingPlanes nine = of(9);
            nine.twist();
            check.due("twisted: open(" + p + ")", countOpen(nine, p), nine.open(p));
        }
    }

    private static int countOpen(RingPlanes x, int p) {
        int open = 0;
        for (int j = 0; j < 9; j++) {
            for (int i = 0; i < j; i++) {
                open += x.triangles(p, 0, 1, 2, i, j) == 0 ? 1 : 0;
            }
        }
        return open;
    }

    private void promise15() {
        RingPlanes x = new RingPlanes();
        for (int one = 0; one < 13; one++) {
            for (int other = 0; other < 13; other++) {
                check.due("hexagon(" + one + ", " + other + ")", one == other ? INVALID : 1, x.hexagon(one, other));
            }
        }
        check.due("hexagon(13, 0)", INVALID, x.hexagon(13, 0));
        check.due("hexagon(0, 13)", INVALID, x.hexagon(0, 13));
        check.due("hexagon(-1, 0)", INVALID, x.hexagon(-1, 0));
        check.due("hexagon(0, MIN_VALUE)", INVALID, x.hexagon(0, Integer.MIN_VALUE));
        x.product(1, 1, 2);
        check.due("no plane: hexagon(0, 1)", IMPOSSIBLE, x.hexagon(0, 1));
        check.due("no plane: hexagon(1, 1)", INVALID, x.hexagon(1, 1));
        RingPlanes two = of(2);
        check.due("2: hexagon(0, 6)", IMPOSSIBLE, two.hexagon(0, 6));
        check.due("2: hexagon(6, 6)", INVALID, two.hexagon(6, 6));
        RingPlanes nine = of(9);
        check.due("9: hexagon(0, 10)", 1, nine.hexagon(0, 10));
        nine.twist();
        check.due("twisted: hexagon(0, 10)", 0, nine.hexagon(0, 10));
        check.due("twisted: hexagon(10, 0)", 0, nine.hexagon(10, 0));
        check.due("twisted: hexagon(90, 3)", 1, nine.hexagon(90, 3));
        check.due("twisted: hexagon(3, 90)", 1, nine.hexagon(3, 90));
        int closed = 0;
        for (int one = 0; one < 91; one++) {
            RingPlanes fresh = of(9);
            fresh.twist();
            for (int other = 0; other < one; other++) {
                closed += fresh.hexagon(one, other);
            }
        }
        check.due("twisted: pairs of lines with a hexagon that closes", 1381, closed);
    }
}

/** Promise 16: mirrors, in planes of fields, of twisted products and of products that only look otherwise. */
public final class MirrorsTest {
    private static final int INVALID = -1000001;
    private static final int IMPOSSIBLE = -1000002;

    private final Check check = new Check("MirrorsTest");

    public static void main(String[] args) {
        MirrorsTest test = new MirrorsTest();
        test.fields();
        test.twisted();
        test.shifted();
        test.errors();
        test.check.end();
    }

    private static RingPlanes of(int n) {
        RingPlanes x = new RingPlanes();
        x.field(n);
        return x;
    }

    /** In the plane of a field each map that could be a mirror is one: n with a point of the line, else n - 1. */
    private void fields() {
        for (int n : new int[] {2, 3, 4, 5, 7, 9}) {
            int numbers = n * n + n + 1;
            for (int line = 0; line < numbers; line += n < 5 ? 1 : 7) {
                RingPlanes x = of(n);
                for (int point = 0; point < numbers; point += n < 5 ? 1 : 5) {
                    String call = n + ": mirrors(" + line + ", " + point + ")";
                    check.due(call, n - 1 + x.on(point, line), x.mirrors(line, point));
                }
            }
        }
    }

    private void twisted() {
        RingPlanes x = of(9);
        x.twist();
        for (int point = 81; point < 91; point++) {
            check.due("shifts: mirrors(90, " + point + ")", 9, x.mirrors(90, point));
        }
        int[] found = new int[10];
        for (int line = 0; line < 91; line++) {
            RingPlanes fresh = of(9);
            fresh.twist();
            for (int point = 0; point < 91; point++) {
                found[fresh.mirrors(line, point)]++;
            }
        }
        check.due("pairs with the fixed map alone", 8100, found[1]);
        check.due("pairs with 2 mirrors", 81, found[2]);
        check.due("pairs with 8 mirrors", 90, found[8]);
        check.due("pairs with 9 mirrors", 10, found[9]);
        x.exchange();
        for (int line = 81; line < 91; line++) {
            check.due("exchanged: mirrors(" + line + ", 90)", 9, x.mirrors(line, 90));
        }
        check.due("exchanged: mirrors(90, 81)", 1, x.mirrors(90, 81));
    }

    /** Rows that are shifted and change places lead to the same plane with other numbers. */
    private void shifted() {
        for (int line = 0; line < 31; line++) {
            RingPlanes x = of(5);
            for (int b = 0; b < 5; b++) {
                int of1 = x.by(1, b, 2);
                x.product(1, b, x.by(3, b, 2));
                x.product(3, b, (of1 + 2) % 5);
            }
            check.due("shifted: plane(0)", 1, x.plane(0));
            check.due("shifted: law(0, 0)", 0, x.law(0, 0));
            for (int point = 0; point < 31; point++) {
                String call = "shifted: mirrors(" + line + ", " + point + ")";
                check.due(call, 4 + x.on(point, line), x.mirrors(line, point));
            }
        }
    }

    private void errors() {
        RingPlanes x = new RingPlanes();
        for (int broken = 0; broken < 2; broken++) {
            check.due("mirrors(13, 0)", INVALID, x.mirrors(13, 0));
            check.due("mirrors(0, 13)", INVALID, x.mirrors(0, 13));
            check.due("mirrors(-1, 0)", INVALID, x.mirrors(-1, 0));
            check.due("mirrors(0, -1)", INVALID, x.mirrors(0, -1));
            check.due("mirrors(MAX_VALUE, 0)", INVALID, x.mirrors(Integer.MAX_VALUE, 0));
            check.due("mirrors(0, MIN_VALUE)", INVALID, x.mirrors(0, Integer.MIN_VALUE));
            check.due("mirrors(12, 12)", broken == 0 ? 3 : IMPOSSIBLE, x.mirrors(12, 12));
            x.product(2, 2, 2);
        }
    }
}

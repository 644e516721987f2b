/** Promises 17 to 19: the share of laws, counted numbers, and the history. */
public final class NumbersTest {
    private static final int INVALID = -1000001;
    private static final int IMPOSSIBLE = -1000002;

    private final Check check = new Check("NumbersTest");

    public static void main(String[] args) {
        NumbersTest test = new NumbersTest();
        test.promise17();
        test.promise18();
        test.promise19();
        test.promise19Kinds();
        test.check.end();
    }

    private static RingPlanes of(int n) {
        RingPlanes x = new RingPlanes();
        x.field(n);
        return x;
    }

    private void share(String name, RingPlanes x) {
        int holding = 0;
        for (int law = 0; law < 8; law++) {
            holding += x.law(law, 0);
        }
        check.due(name + ": share() of " + holding, Float.floatToIntBits((float) holding / 8), x.share());
    }

    private void promise17() {
        RingPlanes x = new RingPlanes();
        check.due("all laws hold", 0x3f800000, x.share());
        x.field(9);
        x.twist();
        check.due("six laws hold", 0x3f400000, x.share());
        x.field(3);
        x.product(1, 1, 2);
        check.due("two laws hold", 0x3e800000, x.share());
        // all tables of three elements
        boolean[] met = new boolean[9];
        for (int table = 0; table < 19683; table++) {
            RingPlanes three = new RingPlanes();
            int rest = table;
            for (int place = 0; place < 9; place++) {
                three.product(place / 3, place % 3, rest % 3);
                rest /= 3;
            }
            int holding = 0;
            for (int law = 0; law < 8; law++) {
                holding += three.law(law, 0);
            }
            if (!met[holding]) {
                met[holding] = true;
                share("table " + table, three);
            }
        }
        for (int holding = 0; holding < 9; holding++) {
            // six of them never hold with three elements, but with the twisted products
            check.due("met " + holding, holding == 6 ? 0 : 1, met[holding] ? 1 : 0);
        }
    }

    private void promise18() {
        int[] sizes = {2, 3, 4, 5, 7, 9};
        for (int n : sizes) {
            RingPlanes x = of(n);
            check.due(n + ": count(0)", n, x.count(0));
            check.due(n + ": count(1)", n * n + n + 1, x.count(1));
            check.due(n + ": count(2)", 0, x.count(2));
            check.due(n + ": count(3)", 2 * n - 1, x.count(3));
            check.due(n + ": count(4)", 1, x.count(4));
            x.product(0, 0, 1);
            check.due(n + ": count(2) after 0 * 0 = 1", 1, x.count(2));
            check.due(n + ": count(3) after 0 * 0 = 1", 2 * n - 2, x.count(3));
            x.product(n - 1, n - 1, 0);
            check.due(n + ": count(2) after two products", 2, x.count(2));
            check.due(n + ": count(3) after two products", 2 * n - 1, x.count(3));
            check.due(n + ": count(4) after two products", 3, x.count(4));
            x.type('1');
            x.type('x');
            check.due(n + ": count(5)", 2, x.count(5));
        }
        RingPlanes x = of(9);
        x.twist();
        check.due("twisted: count(2)", 24, x.count(2));
        check.due("twisted: count(3)", 17, x.count(3));
        check.due("count(-1)", INVALID, x.count(-1));
        check.due("count(6)", INVALID, x.count(6));
        check.due("count(MAX_VALUE)", INVALID, x.count(Integer.MAX_VALUE));
    }

    private void promise19() {
        RingPlanes x = new RingPlanes();
        check.due("undo() of nothing", IMPOSSIBLE, x.undo());
        x.field(9);
        x.field(5);
        x.product(1, 1, 3);
        x.product(1, 1, 4);
        check.due("four states", 4, x.count(4));
        x.type('7');
        x.field(2);
        check.due("still four states", 4, x.count(4));
        check.due("undo() of field(2)", 3, x.undo());
        check.due("n", 5, x.count(0));
        check.due("1 * 1", 4, x.by(1, 1, 2));
        check.due("undo() of 4", 2, x.undo());
        check.due("1 * 1", 3, x.by(1, 1, 2));
        check.due("undo() of 3", 1, x.undo());
        check.due("1 * 1", 1, x.by(1, 1, 2));
        check.due("a change between", 1, x.product(1, 1, 0));
        check.due("two states", 2, x.count(4));
        check.due("undo() of 0", 1, x.undo());
        check.due("undo() of field(5)", 0, x.undo());
        check.due("n", 9, x.count(0));
        check.due("8 * 8", 6, x.by(8, 8, 2));
        check.due("the oldest state was dropped", IMPOSSIBLE, x.undo());
        check.due("n stays", 9, x.count(0));
        check.due("the text stays", 1, x.count(5));
    }

    private void promise19Kinds() {
        RingPlanes x = of(9);
        x.product(4, 5, 2);
        x.twist();
        x.exchange();
        check.due("4 * 5 as exchanged", 3, x.by(4, 5, 2));
        check.due("undo() of exchange()", 3, x.undo());
        check.due("4 * 5 as twisted", 6, x.by(4, 5, 2));
        check.due("undo() of twist()", 2, x.undo());
        check.due("4 * 5 as set", 2, x.by(4, 5, 2));
        x.type('4');
        x.type('*');
        x.type('5');
        x.type('=');
        x.type('8');
        x.type(';');
        x.play();
        check.due("4 * 5 as played", 8, x.by(4, 5, 2));
        check.due("undo() of play()", 2, x.undo());
        check.due("4 * 5 as set", 2, x.by(4, 5, 2));
        check.due("the text stays", 6, x.count(5));
        check.due("undo() of product()", 1, x.undo());
        check.due("4 * 5 of the field", 1, x.by(4, 5, 2));
        check.due("plane(0)", 1, x.plane(0));
        int before = x.count(4);
        x.clearText();
        x.by(0, 0, 0);
        x.law(0, 0);
        x.mirrors(0, 0);
        x.share();
        check.due("other calls are no changes", before, x.count(4));
    }
}

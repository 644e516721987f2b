/** Promises 17 to 19: the share of laws, counted numbers, and the history. */
public final class NumbersTest {
    private static final int INVALID = -1000001;
    private static final int IMPOSSIBLE = -1000002;

    private final Check check = new Check("NumbersTest");

    public static void main(String[] args) {
        NumbersTest test = new NumbersTest();
        test.promise17();
        test.promise18();
        test.promise19();
        test.promise19Kinds();
        test.check.end();
    }

    private static RingPlanes of(int n) {
        RingPlanes x = new RingPlanes();
        x.field(n);
        return x;
    }

    /** The ring of three elements with these products, row by row. */
    private static RingPlanes three(String table) {
        RingPlanes x = new RingPlanes();
        for (int place = 0; place < 9; place++) {
            x.product(place / 3, place % 3, table.charAt(place) - '0');
        }
        return x;
    }

    private void promise17() {
        check.due("no law holds", 0, three("010000000").share());
        check.due("one law holds", 0x3e000000, three("100000000").share());
        check.due("two laws hold", 0x3e800000, three("201210000").share());
        check.due("three laws hold", 0x3ec00000, three("000010000").share());
        check.due("four laws hold", 0x3f000000, three("012111210").share());
        check.due("five laws hold", 0x3f200000, three("000000000").share());
        check.due("seven laws hold", 0x3f600000, three("000021012").share());
        check.due("all laws hold", 0x3f800000, three("000012021").share());
        RingPlanes x = of(9);
        x.twist();
        check.due("six laws hold", 0x3f400000, x.share());
        for (int bits = 0; bits < 16; bits++) {
            RingPlanes two = of(2);
            int holding = 0;
            for (int place = 0; place < 4; place++) {
                two.product(place / 2, place % 2, bits >> place & 1);
            }
            for (int law = 0; law < 8; law++) {
                holding += two.law(law, 0);
            }
            check.due("share() of table " + bits, Float.floatToIntBits((float) holding / 8), two.share());
        }
    }

    private void promise18() {
        int[] sizes = {2, 3, 4, 5, 7, 9};
        for (int n : sizes) {
            RingPlanes x = of(n);
            check.due(n + ": count(0)", n, x.count(0));
            check.due(n + ": count(1)", n * n + n + 1, x.count(1));
            check.due(n + ": count(2)", 0, x.count(2));
            check.due(n + ": count(3)", 2 * n - 1, x.count(3));
            check.due(n + ": count(4)", 1, x.count(4));
            x.product(0, 0, 1);
            check.due(n + ": count(2) after 0 * 0 = 1", 1, x.count(2));
            check.due(n + ": count(3) after 0 * 0 = 1", 2 * n - 2, x.count(3));
            x.product(n - 1, n - 1, 0);
            check.due(n + ": count(2) after two products", 2, x.count(2));
            check.due(n + ": count(3) after two products", 2 * n - 1, x.count(3));
            check.due(n + ": count(4) after two products", 3, x.count(4));
            x.type('1');
            x.type('x');
            check.due(n + ": count(5)", 2, x.count(5));
        }
        RingPlanes x = of(9);
        x.twist();
        check.due("twisted: count(2)", 24, x.count(2));
        check.due("twisted: count(3)", 17, x.count(3));
        check.due("count(-1)", INVALID, x.count(-1));
        check.due("count(6)", INVALID, x.count(6));
        check.due("count(MAX_VALUE)", INVALID, x.count(Integer.MAX_VALUE));
    }

    private void promise19() {
        RingPlanes x = new RingPlanes();
        check.due("undo() of nothing", IMPOSSIBLE, x.undo());
        x.field(9);
        x.field(5);
        x.product(1, 1, 3);
        x.product(1, 1, 4);
        check.due("four states", 4, x.count(4));
        x.type('7');
        x.field(2);
        check.due("still four states", 4, x.count(4));
        check.due("undo() of field(2)", 3, x.undo());
        check.due("n", 5, x.count(0));
        check.due("1 * 1", 4, x.by(1, 1, 2));
        check.due("undo() of 4", 2, x.undo());
        check.due("1 * 1", 3, x.by(1, 1, 2));
        check.due("undo() of 3", 1, x.undo());
        check.due("1 * 1", 1, x.by(1, 1, 2));
        check.due("a change between", 1, x.product(1, 1, 0));
        check.due("two states", 2, x.count(4));
        check.due("undo() of 0", 1, x.undo());
        check.due("undo() of field(5)", 0, x.undo());
        check.due("n", 9, x.count(0));
        check.due("8 * 8", 6, x.by(8, 8, 2));
        check.due("the oldest state was dropped", IMPOSSIBLE, x.undo());
        check.due("n stays", 9, x.count(0));
        check.due("the text stays", 1, x.count(5));
    }

    private void promise19Kinds() {
        RingPlanes x = of(9);
        x.product(4, 5, 2);
        x.twist();
        x.exchange();
        check.due("4 * 5 as exchanged", 3, x.by(4, 5, 2));
        check.due("undo() of exchange()", 3, x.undo());
        check.due("4 * 5 as twisted", 6, x.by(4, 5, 2));
        check.due("undo() of twist()", 2, x.undo());
        check.due("4 * 5 as set", 2, x.by(4, 5, 2));
        x.type('4');
        x.type('*');
        x.type('5');
        x.type('=');
        x.type('8');
        x.type(';');
        x.play();
        check.due("4 * 5 as played", 8, x.by(4, 5, 2));
        check.due("undo() of play()", 2, x.undo());
        check.due("4 * 5 as set", 2, x.by(4, 5, 2));
        check.due("the text stays", 6, x.count(5));
        check.due("undo() of product()", 1, x.undo());
        check.due("4 * 5 of the field", 1, x.by(4, 5, 2));
        check.due("plane(0)", 1, x.plane(0));
        int before = x.count(4);
        x.clearText();
        x.by(0, 0, 0);
        x.law(0, 0);
        x.mirrors(0, 0);
        x.share();
        check.due("other calls are no changes", before, x.count(4));
    }
}

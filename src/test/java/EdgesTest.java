/** Promises 2 to 23: arguments at and far beyond all edges, in every mix, answered as the reference does. */
public final class EdgesTest {
    private static final int[] ODD = {Integer.MIN_VALUE, -1000001, -1, 0, 1, 2, 3, 7, 60, 127, Integer.MAX_VALUE};

    private final Check check = new Check("EdgesTest");
    private RingPlanes real;
    private Reference due;

    public static void main(String[] args) {
        new EdgesTest().all();
    }

    private void all() {
        for (int state = 0; state < 4; state++) {
            for (int a : ODD) {
                oneArgument(state, a);
                for (int b : ODD) {
                    twoArguments(state, a, b);
                    threeArguments(state, a, b);
                }
            }
            triangles(state);
        }
        check.end();
    }

    /** A new object in one of four states: new, smallest, twisted, and no plane. */
    private void begin(int state) {
        real = new RingPlanes();
        due = new Reference();
        if (state == 1) {
            real.field(2);
            due.field(2);
        } else if (state == 2) {
            real.field(9);
            due.field(9);
            real.twist();
            due.twist();
        } else if (state == 3) {
            real.product(1, 2, 0);
            due.product(1, 2, 0);
        }
        for (char sign : "1*1=2;1*1=0".toCharArray()) {
            real.type(sign);
            due.type(sign);
        }
    }

    private void compare(String call, int dueAnswer, int answer) {
        check.due(call, dueAnswer, answer);
    }

    private void counts(String call) {
        for (int what = 0; what < 6; what++) {
            compare("count(" + what + ") after " + call, due.count(what), real.count(what));
        }
    }

    private void oneArgument(int state, int a) {
        begin(state);
        String told = "(" + a + ") in state " + state;
        compare("elements" + told, due.elements(a), real.elements(a));
        compare("plane" + told, due.plane(a), real.plane(a));
        compare("open" + told, due.open(a), real.open(a));
        compare("count" + told, due.count(a), real.count(a));
        compare("fault" + told, due.fault(a), real.fault(a));
        compare("type" + told, due.type(a), real.type(a));
        compare("field" + told, due.field(a), real.field(a));
        counts("calls" + told);
    }

    private void twoArguments(int state, int a, int b) {
        begin(state);
        String told = "(" + a + ", " + b + ") in state " + state;
        compare("law" + told, due.law(a, b), real.law(a, b));
        compare("on" + told, due.on(a, b), real.on(a, b));
        compare("hexagon" + told, due.hexagon(a, b), real.hexagon(a, b));
        compare("mirrors" + told, due.mirrors(a, b), real.mirrors(a, b));
        counts("calls" + told);
    }

    private void threeArguments(int state, int a, int b) {
        begin(state);
        for (int c : ODD) {
            String told = "(" + a + ", " + b + ", " + c + ") in state " + state;
            compare("by" + told, due.by(a, b, c), real.by(a, b, c));
            compare("at" + told, due.at(a, b, c), real.at(a, b, c));
            compare("join" + told, due.join(a, b, c), real.join(a, b, c));
            compare("product" + told, due.product(a, b, c), real.product(a, b, c));
        }
        counts("calls with " + a + ", " + b);
    }

    private void triangles(int state) {
        begin(state);
        for (int mix = 0; mix < 400; mix++) {
            int[] row = new int[6];
            int rest = mix * 7 + 1;
            for (int place = 0; place < 6; place++) {
                rest = (rest * 31 + 17 * place + 5) % 10007;
                row[place] = rest % 3 == 0 ? ODD[rest % ODD.length] : rest % 5;
            }
            compare("triangles of mix " + mix + " in state " + state,
                    due.triangles(row[0], row[1], row[2], row[3], row[4], row[5]),
                    real.triangles(row[0], row[1], row[2], row[3], row[4], row[5]));
        }
        counts("triangles");
    }
}

import java.util.function.Consumer;

/** Promise 19: undo, and the history that all changes keep. */
public final class Promise19Test extends PromiseTests {
    public static void main(String[] args) {
        new Promise19Test().run();
    }

    /** "NOT_POSSIBLE if it is empty": at first, and when all states have been restored. */
    void isNotPossibleWithoutStates() {
        RingPlanes x = with("2*2=2;");
        due("undo() at first", IMPOSSIBLE, x.undo());
        due("undo() again", IMPOSSIBLE, x.undo());
        same("after undo() of nothing", with("2*2=2;"), x);
        RingPlanes y = of(5);
        due("undo() of field(5)", 0, y.undo());
        due("undo() of nothing more", IMPOSSIBLE, y.undo());
        due("count(0)", 3, y.count(0));
        due("count(4)", 0, y.count(4));
        due("field(7) afterwards", 3, y.field(7));
        due("count(4) afterwards", 1, y.count(4));
        due("undo() afterwards", 0, y.undo());
    }

    /** "Returns the number of states that are left in the history". */
    void tellsTheStatesThatAreLeft() {
        for (int changes = 1; changes <= 4; changes++) {
            RingPlanes x = new RingPlanes();
            for (int change = 0; change < changes; change++) {
                x.product(0, 0, 1);
            }
            for (int left = changes - 1; left >= 0; left--) {
                due("undo() of " + changes + " changes", left, x.undo());
            }
            due("undo() of nothing", IMPOSSIBLE, x.undo());
        }
    }

    /** "A history of at most 4 states is kept": after four changes the first state is still there. */
    void keepsFourStates() {
        RingPlanes x = new RingPlanes();
        x.field(2);
        x.field(9);
        x.twist();
        x.product(8, 8, 0);
        due("count(4)", 4, x.count(4));
        due("undo()", 3, x.undo());
        due("8 * 8", 2, x.by(8, 8, 2));
        due("undo()", 2, x.undo());
        due("8 * 8", 6, x.by(8, 8, 2));
        due("undo()", 1, x.undo());
        due("count(0)", 2, x.count(0));
        due("undo()", 0, x.undo());
        due("count(0), the first", 3, x.count(0));
        due("undo()", IMPOSSIBLE, x.undo());
    }

    /** "If there are 5 states then, the oldest one is dropped": that one alone, by each further change. */
    void dropsTheOldest() {
        for (int changes = 5; changes <= 14; changes++) {
            RingPlanes x = of(9);
            for (int change = 2; change <= changes; change++) {
                x.product(8, 8, change % 9);
            }
            due("count(4) after " + changes + " changes", 4, x.count(4));
            for (int undone = 1; undone <= 4; undone++) {
                due("undo()", 4 - undone, x.undo());
                int change = changes - undone;
                due("8 * 8 after " + changes + " changes, " + undone + " undone", change == 1 ? 6 : change % 9,
                        x.by(8, 8, 2));
            }
            due("undo() of a dropped state", IMPOSSIBLE, x.undo());
            due("count(0)", 9, x.count(0));
        }
    }

    /** "Restores the latest state of the history, which is removed from it": there is room for a new one. */
    void makesRoomAgain() {
        RingPlanes x = of(7);
        x.product(1, 1, 2);
        x.product(1, 1, 3);
        x.product(1, 1, 4);
        due("undo()", 3, x.undo());
        due("undo()", 2, x.undo());
        x.product(1, 1, 5);
        due("count(4)", 3, x.count(4));
        x.product(1, 1, 6);
        due("count(4)", 4, x.count(4));
        due("undo()", 3, x.undo());
        due("1 * 1", 5, x.by(1, 1, 2));
        due("undo()", 2, x.undo());
        due("1 * 1", 2, x.by(1, 1, 2));
        due("undo()", 1, x.undo());
        due("1 * 1", 1, x.by(1, 1, 2));
        due("undo()", 0, x.undo());
        due("count(0)", 3, x.count(0));
        due("undo()", IMPOSSIBLE, x.undo());
    }

    /** undo() is none of the changes: it cannot be undone itself. */
    void isNoChange() {
        RingPlanes x = new RingPlanes();
        x.product(1, 1, 0);
        x.product(1, 1, 2);
        due("undo()", 1, x.undo());
        due("1 * 1", 0, x.by(1, 1, 2));
        due("undo()", 0, x.undo());
        due("1 * 1", 1, x.by(1, 1, 2));
    }

    /** "Each change records everything before it but the text": the text stays as it is. */
    void leavesTheText() {
        RingPlanes x = with("1*1=0;");
        x.play();
        type(x, "2*2=0;x");
        due("undo()", 0, x.undo());
        due("count(5)", 13, x.count(5));
        due("fault(0)", 12, x.fault(0));
        x.field(2);
        x.clearText();
        due("undo() after clearText()", 0, x.undo());
        due("count(5)", 0, x.count(5));
        RingPlanes full = with(FULL_TEXT);
        full.field(5);
        full.undo();
        due("type('1') in a full text", LIMIT, full.type('1'));
    }

    /** "Records everything": every product of each size, and the size. */
    void restoresEveryProduct() {
        for (int n : SIZES) {
            RingPlanes x = ring(n, (a, b) -> (a * 2 + b * b + 1) % n);
            x.field(n == 9 ? 2 : 9);
            due("undo() of another size", 3, x.undo());
            due("count(0)", n, x.count(0));
            products(n + " restored", x, n, (a, b) -> (a * 2 + b * b + 1) % n);
        }
    }

    /** "The changes are the calls of field, twist, product, exchange and play that return no error". */
    void countsEachKindOfChange() {
        change("field(9)", x -> x.field(9));
        change("field(2)", x -> x.field(2));
        change("twist()", RingPlanes::twist);
        change("product(8, 8, 1)", x -> x.product(8, 8, 1));
        change("exchange()", RingPlanes::exchange);
        change("play()", RingPlanes::play);
    }

    private void change(String told, Consumer<RingPlanes> call) {
        RingPlanes x = kept();
        call.accept(x);
        due("count(4) after " + told, 3, x.count(4));
        due("undo() of " + told, 2, x.undo());
        same("after " + told + " and undo()", kept(), x);
        RingPlanes full = kept();
        full.product(0, 8, 1);
        full.product(0, 8, 2);
        call.accept(full);
        due("count(4) after " + told + " with four states", 4, full.count(4));
        due("undo() of " + told, 3, full.undo());
        due("0 * 8", 2, full.by(0, 8, 2));
        due("undo()", 2, full.undo());
        due("undo()", 1, full.undo());
        due("undo()", 0, full.undo());
        due("count(0): the oldest was dropped", 9, full.count(0));
        due("undo()", IMPOSSIBLE, full.undo());
    }

    private static RingPlanes kept() {
        RingPlanes x = of(9);
        x.product(4, 5, 2);
        type(x, "4*5=8;");
        return x;
    }

    /** The same: what returns an error is none, and no other call is one. */
    void countsNoOtherCall() {
        other("field(8)", x -> x.field(8));
        other("product(9, 0, 0)", x -> x.product(9, 0, 0));
        other("by(4, 5, 2)", x -> x.by(4, 5, 2));
        other("by(4, 5, 3)", x -> x.by(4, 5, 3));
        other("law(2, 0)", x -> x.law(2, 0));
        other("elements(2)", x -> x.elements(2));
        other("on(3, 4)", x -> x.on(3, 4));
        other("at(3, 1, 4)", x -> x.at(3, 1, 4));
        other("join(3, 4, 0)", x -> x.join(3, 4, 0));
        other("plane(1)", x -> x.plane(1));
        other("triangles(0, 0, 1, 9, 0, 1)", x -> x.triangles(0, 0, 1, 9, 0, 1));
        other("open(0)", x -> x.open(0));
        other("hexagon(0, 10)", x -> x.hexagon(0, 10));
        other("mirrors(90, 90)", x -> x.mirrors(90, 90));
        other("share()", RingPlanes::share);
        other("count(2)", x -> x.count(2));
        other("fault(0)", x -> x.fault(0));
        RingPlanes x = kept();
        x.type('x');
        due("count(4) after type('x')", 2, x.count(4));
        due("play() with a fault", IMPOSSIBLE, x.play());
        due("count(4) after play() with a fault", 2, x.count(4));
        x.clearText();
        due("count(4) after clearText()", 2, x.count(4));
        RingPlanes three = new RingPlanes();
        due("twist() of three elements", IMPOSSIBLE, three.twist());
        due("count(4) after it", 0, three.count(4));
    }

    private void other(String told, Consumer<RingPlanes> call) {
        RingPlanes x = kept();
        call.accept(x);
        same("after " + told, kept(), x);
    }
}

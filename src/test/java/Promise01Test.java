/** Promise 1: a new object. */
public final class Promise01Test extends PromiseTests {
    private static final int MOST_CALLS = 512;

    public static void main(String[] args) {
        new Promise01Test().run();
    }

    /** "Creates the field of three elements"; "3 at first". */
    void hasThreeElements() {
        RingPlanes x = new RingPlanes();
        due("count(0)", 3, x.count(0));
        due("count(1)", 13, x.count(1));
        due("by(2, 2, 0)", 1, x.by(2, 2, 0));
        due("by(3, 2, 0)", INVALID, x.by(3, 2, 0));
        due("by(2, 3, 0)", INVALID, x.by(2, 3, 0));
        due("field(5)", 3, new RingPlanes().field(5));
    }

    /** "Creates the field": no product is another one. */
    void hasTheProductsOfTheField() {
        RingPlanes x = new RingPlanes();
        products("new", x, 3, (a, b) -> a * b % 3);
        due("count(2)", 0, x.count(2));
        for (int law = 0; law < 8; law++) {
            due("law(" + law + ", 0)", 1, x.law(law, 0));
        }
    }

    /** The history of a new object is empty: its making is none of the changes. */
    void hasNoStates() {
        RingPlanes x = new RingPlanes();
        due("count(4)", 0, x.count(4));
        due("undo()", IMPOSSIBLE, x.undo());
        due("count(0)", 3, x.count(0));
    }

    /** "There is a text of at most 60 characters, initially empty". */
    void hasAnEmptyText() {
        RingPlanes x = new RingPlanes();
        due("count(5)", 0, x.count(5));
        due("fault(0)", MISSING, x.fault(0));
        due("fault(1)", MISSING, x.fault(1));
        due("clearText()", 0, x.clearText());
        due("type('1')", 1, x.type('1'));
    }

    /** One object shows nothing of what was done with another one. */
    void isApartFromOthers() {
        RingPlanes first = new RingPlanes();
        first.field(9);
        first.product(1, 1, 5);
        type(first, FULL_TEXT);
        first.mirrors(3, 3);
        RingPlanes second = new RingPlanes();
        same("a second object", new RingPlanes(), second);
        second.field(2);
        due("count(0) of the first", 9, first.count(0));
        due("by(1, 1, 2) of the first", 5, first.by(1, 1, 2));
        due("count(5) of the first", 60, first.count(5));
        due("count(4) of the first", 2, first.count(4));
    }

    /** "An object is used for at most 512 calls after it has been made". */
    void answersTheLastOfItsCalls() {
        due("the last call: undo()", 3, used().undo());
        due("the last call: field(9)", 5, used().field(9));
        due("the last call: count(4)", 4, used().count(4));
        due("the last call: count(5)", 60, used().count(5));
        due("the last call: type('1')", LIMIT, used().type('1'));
        due("the last call: play()", 10, used().play());
        due("the last call: clearText()", 60, used().clearText());
        due("the last call: mirrors(30, 30)", 5, used().mirrors(30, 30));
        due("the last call: law(6, 0)", 1, used().law(6, 0));
    }

    /** An object of which all calls but one are used up: the field of five elements, with a full text. */
    private static RingPlanes used() {
        RingPlanes x = new RingPlanes();
        type(x, FULL_TEXT);
        for (int call = FULL_TEXT.length() + 1; call < MOST_CALLS - 1; call++) {
            x.product(call % 2, 1, call / 2 % 2);
        }
        x.field(5);
        return x;
    }
}

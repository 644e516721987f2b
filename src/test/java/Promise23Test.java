/** Promise 23: play. */
public final class Promise23Test extends PromiseTests {
    public static void main(String[] args) {
        new Promise23Test().run();
    }

    /** "They are one change, also if there are none": of an empty text. */
    void isAChangeOfAnEmptyText() {
        for (int n : SIZES) {
            RingPlanes x = of(n);
            due(n + ": play() of nothing", 0, x.play());
            due(n + ": count(2)", 0, x.count(2));
            due(n + ": count(4)", 2, x.count(4));
            due(n + ": undo()", 1, x.undo());
            due(n + ": count(0)", n, x.count(0));
        }
        RingPlanes cleared = with(FULL_TEXT);
        cleared.clearText();
        due("play() of a cleared text", 0, cleared.play());
        due("count(4)", 1, cleared.count(4));
        due("count(2)", 0, cleared.count(2));
    }

    /** The same: also if no product becomes another one. */
    void isAChangeWithoutOtherProducts() {
        RingPlanes x = with("1*1=1;2*2=1;");
        due("play()", 2, x.play());
        due("count(2)", 0, x.count(2));
        due("count(4)", 1, x.count(4));
        due("undo()", 0, x.undo());
    }

    /** "Returns how many there are in it": from 1 to 10. */
    void tellsHowManyThereAre() {
        for (int products = 1; products <= 10; products++) {
            RingPlanes x = with(FULL_TEXT.substring(0, 6 * products));
            due("play() of " + products, products, x.play());
            due("count(4)", 1, x.count(4));
            due("1 * 1", 0, x.by(1, 1, 2));
            due("0 * 1", products == 1 ? 0 : 1, x.by(0, 1, 2));
        }
    }

    /** "Sets all products of the text": the first and the last of a full one, of the first and the last elements. */
    void setsAllProducts() {
        RingPlanes x = with("8*8=1;8*7=2;8*6=3;8*5=4;8*4=5;8*3=6;8*2=7;8*1=8;8*0=8;0*8=0;");
        x.field(9);
        due("play()", 10, x.play());
        products("played", x, 9, (a, b) -> a < 8 ? fieldProduct(9, a, b) : b == 0 ? 8 : 9 - b);
        RingPlanes two = with("0*0=1;0*1=1;1*0=1;1*1=0;");
        two.field(2);
        due("play() of 2", 4, two.play());
        products("played of 2", two, 2, (a, b) -> a + b == 2 ? 0 : 1);
    }

    /** The same: of two products of the same elements the later one stays. */
    void setsTheLaterOne() {
        RingPlanes x = with("1*2=0;2*1=0;1*2=1;");
        due("play()", 3, x.play());
        due("1 * 2", 1, x.by(1, 2, 2));
        due("2 * 1", 0, x.by(2, 1, 2));
    }

    /** "The text, which stays": it may be played again, and typed on. */
    void leavesTheText() {
        RingPlanes x = with("1*2=0;");
        x.play();
        due("count(5)", 6, x.count(5));
        due("fault(0)", MISSING, x.fault(0));
        x.product(1, 2, 1);
        due("play() again", 1, x.play());
        due("1 * 2", 0, x.by(1, 2, 2));
        type(x, "2*1=1;");
        due("play() of two", 2, x.play());
        due("2 * 1", 1, x.by(2, 1, 2));
        due("count(4)", 4, x.count(4));
        RingPlanes full = with(FULL_TEXT);
        full.play();
        due("count(5) of a full text", 60, full.count(5));
        due("type('1') into it", LIMIT, full.type('1'));
    }

    /** "They are one change": one undo() gives all of them back. */
    void isOneChange() {
        RingPlanes x = of(4);
        x.product(3, 3, 0);
        type(x, "1*1=3;3*3=3;2*1=0;0*0=1;");
        due("play()", 4, x.play());
        due("count(4)", 3, x.count(4));
        due("undo()", 2, x.undo());
        products("given back", x, 4, (a, b) -> a == 3 && b == 3 ? 0 : fieldProduct(4, a, b));
        due("count(5)", 24, x.count(5));
    }

    /** "If there are 5 states then, the oldest one is dropped": also by play(). */
    void dropsTheOldestState() {
        RingPlanes x = busy(5);
        due("count(4)", 4, x.count(4));
        due("play()", 2, x.play());
        due("count(4) after play()", 4, x.count(4));
        due("undo()", 3, x.undo());
        due("1 * 0 again", 0, x.by(1, 0, 2));
        due("undo()", 2, x.undo());
        due("count(0)", 4, x.count(0));
        due("undo()", 1, x.undo());
        due("undo()", 0, x.undo());
        due("count(0), the oldest that is left", 5, x.count(0));
        due("undo()", IMPOSSIBLE, x.undo());
    }

    /** "NOT_POSSIBLE if it has a fault": no product is set then, not even those ahead of the fault. */
    void isNotPossibleWithAFault() {
        String[] texts = {"x", ";", "1*1=0", "1*1=0;1", "1*1=0;2*2=3;", "3*1=0;1*1=0;", "1*1=0;0*0=1;1*1=0:",
            FULL_TEXT.substring(0, 54) + "0*0=3;", FULL_TEXT.substring(0, 59), FULL_TEXT.substring(0, 59) + ","};
        for (String text : texts) {
            leaves("play() of " + text, IMPOSSIBLE, () -> changedThree(text), RingPlanes::play);
            RingPlanes x = with(text);
            x.play();
            due("count(2) after play() of " + text, 0, x.count(2));
            due("count(4) after play() of " + text, 0, x.count(4));
            due("count(5) after play() of " + text, text.length(), x.count(5));
        }
    }

    /** Three elements, with four states in the history, and a text. */
    private static RingPlanes changedThree(String text) {
        RingPlanes x = busy(3);
        x.clearText();
        type(x, text);
        return x;
    }

    /** The fault is that of the present ring: what is good in a large one is not in a small one. */
    void looksAtThePresentRing() {
        RingPlanes x = with("1*1=0;8*8=8;");
        due("play() of 3", IMPOSSIBLE, x.play());
        x.field(9);
        due("play() of 9", 2, x.play());
        due("8 * 8", 8, x.by(8, 8, 2));
        x.field(7);
        due("play() of 7", IMPOSSIBLE, x.play());
        due("1 * 1 of 7", 1, x.by(1, 1, 2));
        due("undo() of field(7)", 2, x.undo());
        due("play() of 9 again", 2, x.play());
    }
}

/** Promise 20: type. */
public final class Promise20Test extends PromiseTests {
    public static void main(String[] args) {
        new Promise20Test().run();
    }

    /** "character: 32 to 126": the first, the last, and all between. */
    void takesEachCharacter() {
        RingPlanes x = new RingPlanes();
        due("type(32)", 1, x.type(32));
        due("type(126)", 2, x.type(126));
        for (int character = 32; character <= 126; character++) {
            due("type(" + character + ")", 1, new RingPlanes().type(character));
        }
    }

    /** "INVALID_ARGUMENT if character is out of range". */
    void refusesOtherCharacters() {
        for (int bad : new int[] {31, 127, 128, 0, 10, 13, 255, 256, 256 + 49, 65536 + 49}) {
            leaves("type(" + bad + ")", INVALID, () -> busy(4), x -> x.type(bad));
        }
        for (int bad : FAR) {
            leaves("type(" + bad + ")", INVALID, () -> busy(3), x -> x.type(bad));
        }
        due("type(31) into an empty text", INVALID, new RingPlanes().type(31));
    }

    /** "Returns the length of the text": up to the 60th character. */
    void tellsTheLength() {
        RingPlanes x = new RingPlanes();
        for (int typed = 1; typed <= 60; typed++) {
            due("character " + typed, typed, x.type(31 + typed));
            due("count(5)", typed, x.count(5));
        }
    }

    /** "LIMIT_REACHED if it has 60 characters". */
    void refusesTheCharacterBeyond() {
        RingPlanes x = with(FULL_TEXT);
        due("count(5)", 60, x.count(5));
        due("character 61", LIMIT, x.type('1'));
        due("character 61 again", LIMIT, x.type(126));
        due("count(5)", 60, x.count(5));
        due("play()", 10, x.play());
        RingPlanes almost = with(FULL_TEXT.substring(0, 59));
        due("character 60", 60, almost.type(';'));
        due("fault(0)", MISSING, almost.fault(0));
        leaves("type('x') into a full text", LIMIT, () -> with(FULL_TEXT), y -> y.type('x'));
        leaves("type(32) into a full text", LIMIT, Promise20Test::fullOfOneFault, y -> y.type(32));
    }

    private static RingPlanes fullOfOneFault() {
        return with(FULL_TEXT.substring(0, 59) + ":");
    }

    /** "INVALID_ARGUMENT is returned rather than .. LIMIT_REACHED". */
    void isInvalidRatherThanLimitReached() {
        for (int bad : new int[] {31, 127, 0, -1, Integer.MIN_VALUE, Integer.MAX_VALUE}) {
            leaves("type(" + bad + ") into a full text", INVALID, () -> with(FULL_TEXT), x -> x.type(bad));
        }
    }

    /** "Appends a character": behind those that are there. */
    void appends() {
        RingPlanes x = new RingPlanes();
        String product = "1*2=0;";
        for (int k = 0; k < 6; k++) {
            due("length", k + 1, x.type(product.charAt(k)));
            due("fault(0) of " + product.substring(0, k + 1), k < 5 ? 0 : MISSING, x.fault(0));
        }
        x.play();
        due("1 * 2", 0, x.by(1, 2, 2));
    }

    /** type() is none of the changes. */
    void isNoChange() {
        RingPlanes x = with(FULL_TEXT);
        due("count(4)", 0, x.count(4));
        due("undo()", IMPOSSIBLE, x.undo());
        due("count(5)", 60, x.count(5));
    }
}

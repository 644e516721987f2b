/** Promise 21: clearText. */
public final class Promise21Test extends PromiseTests {
    public static void main(String[] args) {
        new Promise21Test().run();
    }

    /** "Returns the length it had": from 0 to 60. */
    void tellsTheLengthItHad() {
        for (int length = 0; length <= 60; length++) {
            RingPlanes x = with(FULL_TEXT.substring(0, length));
            due("clearText() of " + length, length, x.clearText());
            due("clearText() again", 0, x.clearText());
        }
    }

    /** "Empties the text": there is no fault, nothing to play, and room for 60 characters. */
    void emptiesTheText() {
        RingPlanes x = with("3*3=3;x");
        due("fault(0)", 0, x.fault(0));
        x.clearText();
        due("count(5)", 0, x.count(5));
        due("fault(0) of nothing", MISSING, x.fault(0));
        due("fault(1) of nothing", MISSING, x.fault(1));
        due("play() of nothing", 0, x.play());
        due("count(2)", 0, x.count(2));
        for (int typed = 1; typed <= 60; typed++) {
            due("character " + typed, typed, x.type('0'));
        }
        due("character 61", LIMIT, x.type('0'));
    }

    /** The same: characters that were there do not come back behind fewer new ones. */
    void leavesNoCharacterBehind() {
        RingPlanes x = with("1*2=0;2*1=0;");
        x.clearText();
        type(x, "2");
        due("fault(0)", 0, x.fault(0));
        due("fault(1)", 1, x.fault(1));
        type(x, "*2=2;");
        due("play()", 1, x.play());
        due("2 * 2", 2, x.by(2, 2, 2));
        due("1 * 2", 2, x.by(1, 2, 2));
        due("2 * 1", 2, x.by(2, 1, 2));
    }

    /** The same: the rest of a product that was there does not end a new one. */
    void leavesNoEndBehind() {
        for (int length = 1; length < 60; length++) {
            RingPlanes x = with(FULL_TEXT);
            x.clearText();
            type(x, FULL_TEXT.substring(0, length));
            int whole = length / 6 * 6;
            due("fault(0) of " + length, whole == length ? MISSING : whole, x.fault(0));
            due("fault(1) of " + length, whole == length ? MISSING : 1, x.fault(1));
            due("play() of " + length, whole == length ? length / 6 : IMPOSSIBLE, x.play());
        }
    }

    /** clearText() is none of the changes: no state is recorded, and undo() brings no text back. */
    void isNoChange() {
        RingPlanes x = with("1*2=0;");
        x.play();
        x.clearText();
        due("count(4)", 1, x.count(4));
        due("1 * 2", 0, x.by(1, 2, 2));
        due("undo()", 0, x.undo());
        due("count(5)", 0, x.count(5));
        leaves("clearText() of nothing", 0, () -> of(4), RingPlanes::clearText);
    }
}

/** Promise 22: fault. */
public final class Promise22Test extends PromiseTests {
    private static final int FORM = 1;
    private static final int ELEMENT = 2;

    public static void main(String[] args) {
        new Promise22Test().run();
    }

    private void fault(RingPlanes x, String text, int place, int reason) {
        type(x, text);
        due("fault(0) of " + text, place, x.fault(0));
        due("fault(1) of " + text, reason, x.fault(1));
    }

    private void fault(String text, int place, int reason) {
        fault(new RingPlanes(), text, place, reason);
    }

    private void noFault(String text) {
        fault(text, MISSING, MISSING);
    }

    /** "INVALID_ARGUMENT if what is out of range": it is 0 or 1; rather than NOT_FOUND, too. */
    void refusesWhatIsNoKind() {
        RingPlanes bad = with("x");
        RingPlanes good = with("1*1=1;");
        RingPlanes empty = new RingPlanes();
        due("fault(2) of a fault", INVALID, bad.fault(2));
        due("fault(2) without one", INVALID, good.fault(2));
        due("fault(2) of nothing", INVALID, empty.fault(2));
        for (int what : FAR) {
            due("fault(" + what + ") of a fault", INVALID, bad.fault(what));
            due("fault(" + what + ") without one", INVALID, good.fault(what));
            due("fault(" + what + ") of nothing", INVALID, empty.fault(what));
        }
        leaves("fault(2)", INVALID, () -> busy(4), x -> x.fault(2));
        leaves("fault(-1) of a fault", INVALID, () -> with("1*"), x -> x.fault(-1));
    }

    /** "NOT_FOUND if the text has no fault (also if it is empty)". */
    void findsNone() {
        noFault("");
        for (int products = 1; products <= 10; products++) {
            noFault(FULL_TEXT.substring(0, 6 * products));
        }
        leaves("fault(0) of nothing", MISSING, () -> of(4), x -> x.fault(0));
        leaves("fault(1) without one", MISSING, () -> busy(4), x -> x.fault(1));
    }

    /** "The position, from 0, of the first character of the first product that is not of this form ..". */
    void tellsWhereTheProductBegins() {
        for (int products = 0; products < 10; products++) {
            String before = FULL_TEXT.substring(0, 6 * products);
            fault(before + "1", 6 * products, FORM);
            fault(before + "1*1=1:", 6 * products, FORM);
            fault(before + "1*1=3;", 6 * products, ELEMENT);
        }
    }

    /** "The first product": others behind it do not count. */
    void tellsTheFirstOfMany() {
        fault("1*1=3;1*1=x;", 0, ELEMENT);
        fault("1*1=x;1*1=3;", 0, FORM);
        fault("1*1=0;9*9=9;x", 6, ELEMENT);
        fault("1*1=0;x*9=9;3*0=0;", 6, FORM);
        fault("1*1=0;1*1=3;1*1=0;1*1", 6, ELEMENT);
    }

    /** "Its \";\" included": a product that is not ended is not of this form. */
    void missesTheEnd() {
        String product = "2*2=1;";
        for (int length = 1; length < 6; length++) {
            fault(product.substring(0, length), 0, FORM);
            fault(product + product.substring(0, length), 6, FORM);
            fault(FULL_TEXT.substring(0, 54) + product.substring(0, length), 54, FORM);
        }
        noFault(product);
        noFault(product + product);
        fault(product + ";", 6, FORM);
        fault(";", 0, FORM);
        fault(product + " ", 6, FORM);
    }

    /** "An element, \"*\", an element, \"=\", an element, each a digit": each place of the form. */
    void seesEachPlaceOfTheForm() {
        String product = "1*2=0;";
        for (int place = 0; place < 6; place++) {
            for (int sign = 32; sign <= 126; sign++) {
                boolean digit = sign >= '0' && sign <= '9';
                boolean good = place % 2 == 0 ? digit : sign == product.charAt(place);
                String text = product.substring(0, place) + (char) sign + product.substring(place + 1);
                if (good) {
                    boolean element = place % 2 == 1 || sign <= '2';
                    fault(text, element ? MISSING : 0, element ? MISSING : ELEMENT);
                } else {
                    fault(text, 0, FORM);
                }
            }
        }
    }

    /** "Each a digit": two digits, a sign or a blank are none. */
    void takesOneDigitForAnElement() {
        fault("10*1=1;", 0, FORM);
        fault("1*10=1;", 0, FORM);
        fault("1*1=10;", 0, FORM);
        fault("-1*1=1;", 0, FORM);
        fault("1* 1=1;", 0, FORM);
        fault("1 *1=1;", 0, FORM);
        fault("*1=1;", 0, FORM);
        fault("1*=1;", 0, FORM);
        fault("1*1=;", 0, FORM);
        fault("1=1*1;", 0, FORM);
    }

    /** "Or has an element that there is not": 2, in each of the three places, from n to 9. */
    void seesEachElementThatThereIsNot() {
        for (int n : SIZES) {
            for (int element = 0; element < 10; element++) {
                int place = element < n ? MISSING : 0;
                int reason = element < n ? MISSING : ELEMENT;
                fault(of(n), element + "*0=1;", place, reason);
                fault(of(n), "0*" + element + "=1;", place, reason);
                fault(of(n), "0*1=" + element + ";", place, reason);
            }
        }
        noFault("2*2=2;");
        fault(of(9), "8*8=8;", MISSING, MISSING);
        fault(of(9), "8*8=9;", 0, ELEMENT);
    }

    /** "1 in the former case (also if there is such an element, too)". */
    void isOfTheFormRatherThanOfTheElement() {
        fault("9*9=9", 0, FORM);
        fault("3*0=0:", 0, FORM);
        fault("3*0=x;", 0, FORM);
        fault("x*0=3;", 0, FORM);
        fault("0*3-0;", 0, FORM);
        fault("0*3=", 0, FORM);
        fault("3", 0, FORM);
        fault("1*1=1;9*9=9", 6, FORM);
    }

    /** "In the present state": the elements that there are change with the ring, and the fault with them. */
    void followsTheRing() {
        RingPlanes x = new RingPlanes();
        fault(x, "1*1=1;2*2=4;", 6, ELEMENT);
        x.field(5);
        due("5: fault(0)", MISSING, x.fault(0));
        due("5: fault(1)", MISSING, x.fault(1));
        x.field(4);
        due("4: fault(0)", 6, x.fault(0));
        due("4: fault(1)", ELEMENT, x.fault(1));
        x.undo();
        due("5 again: fault(0)", MISSING, x.fault(0));
        x.field(2);
        due("2: fault(0)", 6, x.fault(0));
        x.type('x');
        due("2: fault(1) with another fault behind", ELEMENT, x.fault(1));
    }

    /** "At most 60 characters": the last product of a full text. */
    void seesTheLastProductOfAFullText() {
        String nine = FULL_TEXT.substring(0, 54);
        fault(nine + "0*0=3;", 54, ELEMENT);
        fault(nine + "0*0=2:", 54, FORM);
        fault(nine + "3*0=2,", 54, FORM);
        noFault(nine + "2*2=2;");
        // the character beyond was refused, so the text ends well
        noFault(nine + "2*2=2;x");
    }

    /** A refused character makes no fault and mends none. */
    void doesNotSeeRefusedCharacters() {
        RingPlanes x = with("1*1=1");
        x.type(127);
        due("fault(0)", 0, x.fault(0));
        due("fault(1)", FORM, x.fault(1));
        x.type(';');
        due("fault(0) of the whole product", MISSING, x.fault(0));
        x.type(31);
        due("fault(0) after type(31)", MISSING, x.fault(0));
    }

    /** What fault() answers is no change. */
    void isNoChange() {
        leaves("fault(0)", 6, () -> with("1*1=0;3*3=3;"), x -> x.fault(0));
        leaves("fault(1)", ELEMENT, () -> with("1*1=0;3*3=3;"), x -> x.fault(1));
    }
}

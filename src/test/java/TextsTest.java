/** Promises 20 to 23: the text, its fault, and products that are played. */
public final class TextsTest {
    private static final int INVALID = -1000001;
    private static final int IMPOSSIBLE = -1000002;
    private static final int LIMIT = -1000003;
    private static final int MISSING = -1000004;

    private final Check check = new Check("TextsTest");

    public static void main(String[] args) {
        TextsTest test = new TextsTest();
        test.promise20();
        test.promise21();
        test.promise22();
        test.promise22BySize();
        test.promise23();
        test.check.end();
    }

    private static RingPlanes with(String text) {
        RingPlanes x = new RingPlanes();
        for (int k = 0; k < text.length(); k++) {
            x.type(text.charAt(k));
        }
        return x;
    }

    private void promise20() {
        RingPlanes x = new RingPlanes();
        for (int bad : new int[] {31, 127, -1, 0, 255, 65536 + 49, Integer.MIN_VALUE, Integer.MAX_VALUE}) {
            check.due("type(" + bad + ")", INVALID, x.type(bad));
        }
        check.due("errors type nothing", 0, x.count(5));
        check.due("type(32)", 1, x.type(32));
        check.due("type(126)", 2, x.type(126));
        for (int k = 3; k <= 60; k++) {
            check.due("sign " + k, k, x.type('0'));
        }
        check.due("sign 61", LIMIT, x.type('0'));
        check.due("sign 61 again", LIMIT, x.type(32));
        check.due("sign 61 out of range", INVALID, x.type(127));
        check.due("the length stays", 60, x.count(5));
        check.due("type is no change", 0, x.count(4));
    }

    private void promise21() {
        RingPlanes x = new RingPlanes();
        check.due("clearText() of nothing", 0, x.clearText());
        x = with("1*1");
        check.due("clearText()", 3, x.clearText());
        check.due("clearText() again", 0, x.clearText());
        check.due("count(5)", 0, x.count(5));
        check.due("fault(0)", MISSING, x.fault(0));
        check.due("type('2')", 1, x.type('2'));
        check.due("clearText is no change", 0, x.count(4));
        x = with("0*0=1;0*0=1;0*0=1;0*0=1;0*0=1;0*0=1;0*0=1;0*0=1;0*0=1;0*0=1;");
        check.due("clearText() of a full text", 60, x.clearText());
        check.due("there is room again", 1, x.type(';'));
    }

    private void fault(String text, int place, int reason) {
        RingPlanes x = with(text);
        check.due("fault(0) of " + text, place, x.fault(0));
        check.due("fault(1) of " + text, reason, x.fault(1));
        check.due("play() of " + text, place == MISSING ? text.length() / 6 : IMPOSSIBLE, x.play());
        check.due("states after play() of " + text, place == MISSING ? 1 : 0, x.count(4));
    }

    private void promise22() {
        fault("", MISSING, MISSING);
        fault("1*2=0;", MISSING, MISSING);
        fault("1*2=0;2*2=2;", MISSING, MISSING);
        String[] forms = {";", " ", "1", "1*2=0", "1*2=", "1*2", "1*", "1*2=0,", "1*2-0;", "1+2=0;", "x*2=0;", "1*x=0;",
            "1*2=x;", "1*2=0 ;", " 1*2=0;", "1*2=0;;", "11*2=0;", "1*2=00;", "-1*2=0;", "/*2=0;", ":*2=0;", "1*/=0;",
            "1*:=0;", "1*2=/;", "1*2=:;", "3*2=0", "1*2=0:", "1*9=0,", "9*9=9", "1:2=0;", "1*2;0;", "1*2=;0"};
        for (String form : forms) {
            if (form.equals("1*2=0;;")) {
                fault(form, 6, 1);
            } else {
                fault(form, 0, 1);
            }
            fault("0*0=0;2*1=0;" + form, form.equals("1*2=0;;") ? 18 : 12, 1);
            fault("0*0=0;2*1=3;" + form, 6, 2);
        }
        fault("3*0=0;", 0, 2);
        fault("0*3=0;", 0, 2);
        fault("0*0=3;", 0, 2);
        fault("0*0=0;9*9=9;0*0=3;", 6, 2);
        fault("0*0=0;9*9=9:0*0=3;", 6, 1);
        fault("0*0=0;0*0=0;0*0=0;0*0=0;0*0=0;0*0=0;0*0=0;0*0=0;0*0=0;0*0=3;", 54, 2);
        fault("0*0=0;0*0=0;0*0=0;0*0=0;0*0=0;0*0=0;0*0=0;0*0=0;0*0=0;0*0=0:", 54, 1);
        fault("0*0=0;0*0=0;0*0=0;0*0=0;0*0=0;0*0=0;0*0=0;0*0=0;0*0=0;0*0=1;", MISSING, MISSING);
        RingPlanes x = with("4*4=4;");
        for (int bad : new int[] {-1, 2, Integer.MIN_VALUE, Integer.MAX_VALUE}) {
            check.due("fault(" + bad + ")", INVALID, x.fault(bad));
            check.due("fault(" + bad + ") without a fault", INVALID, new RingPlanes().fault(bad));
        }
        // signs of a text that was longer do not count
        RingPlanes shorter = with("1*1=1;1*1=1;");
        shorter.clearText();
        shorter.type('1');
        check.due("fault(0) of a shorter text", 0, shorter.fault(0));
        check.due("fault(1) of a shorter text", 1, shorter.fault(1));
    }

    private void promise22BySize() {
        for (int n : new int[] {2, 3, 4, 5, 7, 9}) {
            for (int element = 0; element < 10; element++) {
                RingPlanes x = with("0*" + element + "=1;");
                x.field(n);
                check.due(n + ": fault(0) with " + element, element < n ? MISSING : 0, x.fault(0));
                check.due(n + ": fault(1) with " + element, element < n ? MISSING : 2, x.fault(1));
            }
        }
    }

    private void promise23() {
        RingPlanes x = with("1*2=0;2*1=1;1*2=1;");
        check.due("play()", 3, x.play());
        check.due("1 * 2, the later one", 1, x.by(1, 2, 2));
        check.due("2 * 1", 1, x.by(2, 1, 2));
        check.due("2 * 2 stays", 1, x.by(2, 2, 2));
        check.due("one change", 1, x.count(4));
        check.due("the text stays", 18, x.count(5));
        check.due("play() again", 3, x.play());
        check.due("two changes", 2, x.count(4));
        check.due("undo()", 1, x.undo());
        check.due("undo()", 0, x.undo());
        check.due("1 * 2 of the field", 2, x.by(1, 2, 2));
        x.field(2);
        check.due("play() with a fault", IMPOSSIBLE, x.play());
        check.due("it changes nothing", 1, x.count(4));
        RingPlanes none = new RingPlanes();
        check.due("play() of no product", 0, none.play());
        check.due("it is one change", 1, none.count(4));
        RingPlanes full = with("8*8=1;8*7=2;8*6=3;8*5=4;8*4=5;8*3=6;8*2=7;8*1=8;8*0=1;0*8=2;");
        full.field(9);
        check.due("play() of a full text", 10, full.play());
        int[] due = {1, 8, 7, 6, 5, 4, 3, 2, 1};
        for (int b = 0; b < 9; b++) {
            check.due("8 * " + b, due[b], full.by(8, b, 2));
        }
        check.due("0 * 8", 2, full.by(0, 8, 2));
        check.due("states", 2, full.count(4));
    }
}

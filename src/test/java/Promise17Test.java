/** Promise 17: share. */
public final class Promise17Test extends PromiseTests {
    public static void main(String[] args) {
        new Promise17Test().run();
    }

    private static RingPlanes three(String table) {
        return ring(3, (a, b) -> table.charAt(3 * a + b) - '0');
    }

    /** "How many of the eight do, as a float, divided by 8": none. */
    void tellsNoLaw() {
        due("share() of no law", 0, three("010000000").share());
        due("its bits are those of 0", Float.floatToIntBits(0f), three("010000000").share());
    }

    /** The same: all of them. */
    void tellsAllLaws() {
        for (int n : SIZES) {
            due(n + ": share()", Float.floatToIntBits(1f), of(n).share());
        }
        due("a new object: share()", 0x3f800000, new RingPlanes().share());
    }

    /** The same: each number of laws between. */
    void tellsEachNumberOfLaws() {
        String[] tables = {"010000000", "100000000", "201210000", "000010000", "012111210", "000000000", "",
            "000021012", "000012021"};
        for (int laws = 0; laws <= 8; laws++) {
            RingPlanes x = laws == 6 ? twisted() : three(tables[laws]);
            int holding = 0;
            for (int law = 0; law < 8; law++) {
                holding += x.law(law, 0);
            }
            due("laws that hold", laws, holding);
            due("share() of " + laws + " laws", Float.floatToIntBits((float) laws / 8), x.share());
        }
    }

    /** It is told of the present ring, and is no change. */
    void followsTheRing() {
        RingPlanes x = new RingPlanes();
        x.product(1, 1, 2);
        due("share() after 1 * 1 = 2", Float.floatToIntBits(0.25f), x.share());
        x.undo();
        due("share() after undo()", Float.floatToIntBits(1f), x.share());
        leaves("share()", Float.floatToIntBits(1f), () -> busy(4), RingPlanes::share);
        leaves("share() of the twisted", Float.floatToIntBits(0.75f), PromiseTests::twisted, RingPlanes::share);
    }
}

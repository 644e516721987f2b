/** Promise 15: hexagon. */
public final class Promise15Test extends PromiseTests {
    public static void main(String[] args) {
        new Promise15Test().run();
    }

    /** "one: number of a line; other: number of another line": "INVALID_ARGUMENT if an argument is out of range". */
    void refusesWhatIsNoLine() {
        for (int n : SIZES) {
            RingPlanes x = of(n);
            int beyond = last(n) + 1;
            due(n + ": hexagon(beyond, 0)", INVALID, x.hexagon(beyond, 0));
            due(n + ": hexagon(0, beyond)", INVALID, x.hexagon(0, beyond));
            due(n + ": hexagon(beyond, beyond + 1)", INVALID, x.hexagon(beyond, beyond + 1));
            due(n + ": hexagon(91, 0)", INVALID, x.hexagon(91, 0));
            for (int bad : FAR) {
                due(n + ": hexagon(" + bad + ", 0)", INVALID, x.hexagon(bad, 0));
                due(n + ": hexagon(0, " + bad + ")", INVALID, x.hexagon(0, bad));
            }
        }
        leaves("hexagon(-1, 0)", INVALID, () -> busy(4), x -> x.hexagon(-1, 0));
        leaves("hexagon(0, 21)", INVALID, () -> busy(4), x -> x.hexagon(0, 21));
    }

    /** "INVALID_ARGUMENT if .. both are the same". */
    void refusesTheSame() {
        for (int n : SIZES) {
            RingPlanes x = of(n);
            for (int line = 0; line <= last(n); line++) {
                due(n + ": hexagon(" + line + ", same)", INVALID, x.hexagon(line, line));
            }
        }
        leaves("hexagon(20, 20)", INVALID, () -> busy(4), x -> x.hexagon(20, 20));
    }

    /** "NOT_POSSIBLE if .. the lines have fewer than 4 points": those of two elements have 3. */
    void isNotPossibleWithThreePoints() {
        RingPlanes x = of(2);
        for (int one = 0; one < 7; one++) {
            for (int other = 0; other < 7; other++) {
                if (one != other) {
                    due("2: hexagon(" + one + ", " + other + ")", IMPOSSIBLE, x.hexagon(one, other));
                }
            }
        }
        due("2: plane(0)", 1, x.plane(0));
        leaves("hexagon(0, 6) of 2", IMPOSSIBLE, () -> busy(2), y -> y.hexagon(0, 6));
    }

    /** The same: with 4 points, of three elements, it is possible. */
    void isPossibleWithFourPoints() {
        RingPlanes x = new RingPlanes();
        for (int one = 0; one < 13; one++) {
            for (int other = 0; other < 13; other++) {
                if (one != other) {
                    due("3: hexagon(" + one + ", " + other + ")", 1, x.hexagon(one, other));
                }
            }
        }
    }

    /** "NOT_POSSIBLE if it is no plane". */
    void isNotPossibleInNoPlane() {
        for (int n : SIZES) {
            RingPlanes x = noPlane(n);
            due("no plane of " + n + ": hexagon(0, 1)", IMPOSSIBLE, x.hexagon(0, 1));
            due("no plane of " + n + ": hexagon(last, 0)", IMPOSSIBLE, x.hexagon(last(n), 0));
            due("no plane of " + n + ": hexagon(last, one below)", IMPOSSIBLE, x.hexagon(last(n), last(n) - 1));
        }
        leaves("hexagon(0, 1) in no plane", IMPOSSIBLE, () -> busyNoPlane(4), x -> x.hexagon(0, 1));
    }

    /** "INVALID_ARGUMENT is returned rather than NOT_POSSIBLE": in no plane, and with three points. */
    void isInvalidRatherThanNotPossible() {
        for (int n : SIZES) {
            RingPlanes x = noPlane(n);
            due("no plane of " + n + ": hexagon(1, 1)", INVALID, x.hexagon(1, 1));
            due("no plane of " + n + ": hexagon(last + 1, 0)", INVALID, x.hexagon(last(n) + 1, 0));
            due("no plane of " + n + ": hexagon(0, last + 1)", INVALID, x.hexagon(0, last(n) + 1));
            due("no plane of " + n + ": hexagon(-1, 0)", INVALID, x.hexagon(-1, 0));
        }
        RingPlanes two = of(2);
        due("2: hexagon(0, 7)", INVALID, two.hexagon(0, 7));
        due("2: hexagon(7, 0)", INVALID, two.hexagon(7, 0));
        due("2: hexagon(6, 6)", INVALID, two.hexagon(6, 6));
    }

    /** "Returns 1 if it closes": the first and the last lines of each field, in either order. */
    void closesInFields() {
        for (int n : new int[] {3, 4, 5, 7, 9}) {
            RingPlanes x = of(n);
            int[] ends = {0, n * n - 1, n * n, last(n) - 1, last(n)};
            for (int one : ends) {
                for (int other : ends) {
                    if (one != other) {
                        due(n + ": hexagon(" + one + ", " + other + ")", 1, x.hexagon(one, other));
                    }
                }
            }
        }
        leaves("hexagon(0, 20)", 1, () -> busy(4), x -> x.hexagon(0, 20));
        leaves("hexagon(0, 10) of the twisted", 0, PromiseTests::twisted, x -> x.hexagon(0, 10));
    }

    /** "With the indexes 0, 1 and 2, lowest first, that are not their meet", whichever point of the line that is. */
    void leavesOutTheMeet() {
        boolean[] left = new boolean[10];
        for (int one = 0; one < 91; one++) {
            for (int other = 0; other < 91; other += 3) {
                if (one != other) {
                    RingPlanes x = twisted();
                    if (other % 2 == 1) {
                        x.exchange();
                    }
                    int meet = x.join(one, other, 1);
                    int[] abc = firstBeside(x, one, meet);
                    int[] def = firstBeside(x, other, meet);
                    left[place(x, one, meet)] = true;
                    due("twisted: hexagon(" + one + ", " + other + ")", close(x, abc, def), x.hexagon(one, other));
                }
            }
        }
        for (int index = 0; index < 10; index++) {
            due("the meet is point " + index + " of some line", 1, left[index] ? 1 : 0);
        }
    }

    private static int place(RingPlanes x, int line, int point) {
        int index = 0;
        while (index < 9 && x.at(line, 0, index) != point) {
            index++;
        }
        return index;
    }

    private static int[] firstBeside(RingPlanes x, int line, int meet) {
        int[] points = new int[3];
        int found = 0;
        for (int index = 0; found < 3; index++) {
            int point = x.at(line, 0, index);
            if (point != meet) {
                points[found] = point;
                found++;
            }
        }
        return points;
    }

    private static int close(RingPlanes x, int[] abc, int[] def) {
        int first = crossing(x, abc[0], def[1], abc[1], def[0]);
        int second = crossing(x, abc[0], def[2], abc[2], def[0]);
        int third = crossing(x, abc[1], def[2], abc[2], def[1]);
        return first == second || x.on(third, x.join(first, second, 0)) == 1 ? 1 : 0;
    }

    private static int crossing(RingPlanes x, int a, int b, int c, int d) {
        return x.join(x.join(a, b, 0), x.join(c, d, 0), 1);
    }
}

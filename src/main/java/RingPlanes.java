/**
 * Planes that are made of rings with two operations: their products, laws, points and lines,
 * triangles, hexagons and mirrors, and products as texts. See README.md.
 */
public final class RingPlanes {
    public static final int INVALID_ARGUMENT = -1000001;
    public static final int NOT_POSSIBLE = -1000002;
    public static final int LIMIT_REACHED = -1000003;
    public static final int NOT_FOUND = -1000004;

    private static final int MOST_ELEMENTS = 9;
    private static final int MOST_PRODUCTS = MOST_ELEMENTS * MOST_ELEMENTS;
    private static final int MOST_POINTS = MOST_PRODUCTS + MOST_ELEMENTS + 1;
    private static final int FIRST_SIZE = 3;
    private static final int TWISTED_SIZE = 9;
    private static final int LAWS = 8;
    private static final int MOST_STATES = 4;
    private static final int MOST_SIGNS = 60;
    private static final int FIRST_SIGN = 32;
    private static final int LAST_SIGN = 126;
    /** No element, point, line or witness has this number. */
    private static final int NONE = -1;

    private final Plane plane;
    private final Ring ring;
    private final History history;
    private final Text text;
    private final Mirrors mirrors;

    public RingPlanes() {
        plane = new Plane();
        ring = plane.ring;
        history = new History();
        text = new Text();
        mirrors = new Mirrors();
    }

    // ---- rings

    public int field(int n) {
        if (!isFieldSize(n)) {
            return INVALID_ARGUMENT;
        }
        history.keep(ring);
        int before = ring.size;
        ring.becomeField(n);
        return before;
    }

    public int twist() {
        if (ring.size != TWISTED_SIZE) {
            return NOT_POSSIBLE;
        }
        history.keep(ring);
        return ring.becomeTwisted();
    }

    public int product(int a, int b, int result) {
        if (!ring.has(a) || !ring.has(b) || !ring.has(result)) {
            return INVALID_ARGUMENT;
        }
        history.keep(ring);
        int before = ring.times(a, b);
        ring.setProduct(a, b, result);
        return before;
    }

    public int exchange() {
        history.keep(ring);
        return ring.changeSides();
    }

    public int by(int a, int b, int what) {
        if (!ring.has(a) || !ring.has(b)) {
            return INVALID_ARGUMENT;
        }
        switch (what) {
            case 0:
                return ring.sum(a, b);
            case 1:
                return ring.difference(a, b);
            case 2:
                return ring.times(a, b);
            case 3:
                return orNotFound(ring.lowestFactor(a, b, true));
            case 4:
                return orNotFound(ring.lowestFactor(a, b, false));
            default:
                return INVALID_ARGUMENT;
        }
    }

    public int law(int law, int what) {
        if (law < 0 || law >= LAWS || what < 0 || what > 3) {
            return INVALID_ARGUMENT;
        }
        int witness = Laws.witness(ring, law);
        if (what == 0) {
            return witness == NONE ? 1 : 0;
        }
        return witness == NONE ? NOT_FOUND : Laws.witnessElement(witness, what);
    }

    public int elements(int what) {
        if (what < 0 || what > 2) {
            return INVALID_ARGUMENT;
        }
        int set = 0;
        for (int a = 0; a < ring.size; a++) {
            if (Laws.isIn(ring, what, a)) {
                set |= 1 << a;
            }
        }
        return set;
    }

    // ---- the plane

    public int on(int point, int line) {
        if (!plane.has(point) || !plane.has(line)) {
            return INVALID_ARGUMENT;
        }
        return plane.isOn(point, line) ? 1 : 0;
    }

    public int at(int number, int which, int index) {
        if (!plane.has(number) || which < 0 || which > 1 || index < 0) {
            return INVALID_ARGUMENT;
        }
        return orNotFound(which == 0 ? plane.pointOf(number, index) : plane.lineThrough(number, index));
    }

    public int join(int one, int other, int which) {
        if (!plane.has(one) || !plane.has(other) || one == other || which < 0 || which > 1) {
            return INVALID_ARGUMENT;
        }
        return orNotFound(which == 0 ? plane.lineOf(one, other) : plane.meetOf(one, other));
    }

    public int plane(int what) {
        switch (what) {
            case 0:
                return plane.isPlane() ? 1 : 0;
            case 1:
                return Laws.pairsApart(ring, true);
            case 2:
                return Laws.pairsApart(ring, false);
            default:
                return INVALID_ARGUMENT;
        }
    }

    // ---- figures

    public int triangles(int p, int l, int m, int k, int i, int j) {
        int n = ring.size;
        boolean lines = isIndex(l, n) && isIndex(m, n) && isIndex(k, n) && l != m && l != k && m != k;
        boolean points = isIndex(i, n - 1) && isIndex(j, n - 1) && i != j;
        if (!plane.has(p) || !lines || !points) {
            return INVALID_ARGUMENT;
        }
        if (!plane.isPlane()) {
            return NOT_POSSIBLE;
        }
        return plane.trianglesClose(p, l, m, k, i, j);
    }

    public int open(int p) {
        if (!plane.has(p)) {
            return INVALID_ARGUMENT;
        }
        if (!plane.isPlane()) {
            return NOT_POSSIBLE;
        }
        int found = 0;
        for (int j = 1; j < ring.size; j++) {
            for (int i = 0; i < j; i++) {
                if (plane.trianglesClose(p, 0, 1, 2, i, j) == 0) {
                    found++;
                }
            }
        }
        return found;
    }

    public int hexagon(int one, int other) {
        if (!plane.has(one) || !plane.has(other) || one == other) {
            return INVALID_ARGUMENT;
        }
        if (ring.size < 3 || !plane.isPlane()) {
            return NOT_POSSIBLE;
        }
        return plane.hexagonCloses(one, other) ? 1 : 0;
    }

    // ---- mirrors

    public int mirrors(int line, int point) {
        if (!plane.has(line) || !plane.has(point)) {
            return INVALID_ARGUMENT;
        }
        if (!plane.isPlane()) {
            return NOT_POSSIBLE;
        }
        return mirrors.tally(plane, line, point);
    }

    public int share() {
        int holding = 0;
        for (int law = 0; law < LAWS; law++) {
            if (Laws.witness(ring, law) == NONE) {
                holding++;
            }
        }
        return bitsOf((float) holding / 8f);
    }

    public int count(int what) {
        switch (what) {
            case 0:
                return ring.size;
            case 1:
                return plane.points();
            case 2:
                return ring.productsUnlikeField();
            case 3:
                return ring.zeroProducts();
            case 4:
                return history.count;
            case 5:
                return text.length;
            default:
                return INVALID_ARGUMENT;
        }
    }

    public int undo() {
        if (history.count == 0) {
            return NOT_POSSIBLE;
        }
        history.restore(ring);
        return history.count;
    }

    // ---- texts

    public int type(int character) {
        if (character < FIRST_SIGN || character > LAST_SIGN) {
            return INVALID_ARGUMENT;
        }
        return text.append((char) character) ? text.length : LIMIT_REACHED;
    }

    public int clearText() {
        int before = text.length;
        text.length = 0;
        return before;
    }

    public int fault(int what) {
        if (what < 0 || what > 1) {
            return INVALID_ARGUMENT;
        }
        int place = text.faultPlace(ring);
        if (place == NONE) {
            return NOT_FOUND;
        }
        return what == 0 ? place : text.reason(place, ring);
    }

    public int play() {
        if (text.faultPlace(ring) != NONE) {
            return NOT_POSSIBLE;
        }
        history.keep(ring);
        return text.setProducts(ring);
    }

    private static boolean isFieldSize(int n) {
        return n == 2 || n == 3 || n == 4 || n == 5 || n == 7 || n == 9;
    }

    private static boolean isIndex(int index, int last) {
        return index >= 0 && index <= last;
    }

    private static int orNotFound(int number) {
        return number == NONE ? NOT_FOUND : number;
    }

    /** The bits of a float from 0 to 1 that is no subnormal; Float's own function is outside LANGUAGE.md. */
    private static int bitsOf(float value) {
        if (value <= 0f) {
            return 0;
        }
        float scaled = value;
        int exponent = 127;
        for (int step = 0; step < 126 && scaled < 1f; step++) {
            scaled = scaled * 2f;
            exponent--;
        }
        return (exponent << 23) + (int) ((scaled - 1f) * 8388608f);
    }

    /** The elements 0 to size - 1, their sums, and the table of their products. */
    private static final class Ring {
        int size;
        final int[] products;

        Ring() {
            products = new int[MOST_PRODUCTS];
            becomeField(FIRST_SIZE);
        }

        boolean has(int element) {
            return element >= 0 && element < size;
        }

        int sum(int a, int b) {
            if (size == 4) {
                return a ^ b;
            }
            if (size == 9) {
                return 3 * ((a / 3 + b / 3) % 3) + (a % 3 + b % 3) % 3;
            }
            return a + b < size ? a + b : a + b - size;
        }

        int difference(int a, int b) {
            if (size == 4) {
                return a ^ b;
            }
            if (size == 9) {
                return 3 * ((a / 3 - b / 3 + 3) % 3) + (a % 3 - b % 3 + 3) % 3;
            }
            return a < b ? a - b + size : a - b;
        }

        int times(int a, int b) {
            int place = MOST_ELEMENTS * a + b;
            return place >= 0 && place < products.length ? products[place] : 0;
        }

        /** a * x, or x * a. */
        int timesOnSide(int a, int x, boolean right) {
            return right ? times(a, x) : times(x, a);
        }

        int lowestFactor(int a, int b, boolean right) {
            for (int x = 0; x < size; x++) {
                if (timesOnSide(a, x, right) == b) {
                    return x;
                }
            }
            return NONE;
        }

        /** Answers 1 if it was another product, otherwise 0. */
        int setProduct(int a, int b, int result) {
            int place = MOST_ELEMENTS * a + b;
            if (place < 0 || place >= products.length || products[place] == result) {
                return 0;
            }
            products[place] = result;
            return 1;
        }

        void becomeField(int n) {
            size = n;
            for (int a = 0; a < n; a++) {
                for (int b = 0; b < n; b++) {
                    setProduct(a, b, fieldProduct(n, a, b));
                }
            }
        }

        int becomeTwisted() {
            int changed = 0;
            for (int b = 0; b < size; b++) {
                boolean plain = isSquare(b);
                for (int a = 0; a < size; a++) {
                    int cube = fieldProduct(size, fieldProduct(size, a, a), a);
                    changed += setProduct(a, b, fieldProduct(size, plain ? a : cube, b));
                }
            }
            return changed;
        }

        int changeSides() {
            int changed = 0;
            for (int a = 1; a < size; a++) {
                for (int b = 0; b < a; b++) {
                    int before = times(a, b);
                    changed += setProduct(a, b, times(b, a));
                    changed += setProduct(b, a, before);
                }
            }
            return changed;
        }

        int productsUnlikeField() {
            int unlike = 0;
            for (int a = 0; a < size; a++) {
                for (int b = 0; b < size; b++) {
                    if (times(a, b) != fieldProduct(size, a, b)) {
                        unlike++;
                    }
                }
            }
            return unlike;
        }

        int zeroProducts() {
            int zeros = 0;
            for (int a = 0; a < size; a++) {
                for (int b = 0; b < size; b++) {
                    if (times(a, b) == 0) {
                        zeros++;
                    }
                }
            }
            return zeros;
        }

        private boolean isSquare(int b) {
            for (int x = 0; x < size; x++) {
                if (fieldProduct(size, x, x) == b) {
                    return true;
                }
            }
            return false;
        }

        private static int fieldProduct(int n, int a, int b) {
            if (n == 4) {
                // 1, 2 and 3 are the powers of 2 in this order, so their exponents are added modulo 3
                return a == 0 || b == 0 ? 0 : 1 + (a + b - 2) % 3;
            }
            if (n == 9) {
                int u = a / 3;
                int v = a % 3;
                int s = b / 3;
                int t = b % 3;
                // 6 keeps the remainder from being negative
                return 3 * ((u * t + v * s) % 3) + (v * t - u * s + 6) % 3;
            }
            return n > 0 ? a * b % n : 0;
        }
    }

    /** What holds in a ring, and the elements by which it does not. */
    private static final class Laws {
        /** The first witness (a, b, c) against a law as one number, or NONE. */
        static int witness(Ring ring, int law) {
            int lastB = law > 1 ? ring.size : 1;
            int lastC = law > 1 && law < 5 ? ring.size : 1;
            for (int a = 0; a < ring.size; a++) {
                for (int b = 0; b < lastB; b++) {
                    for (int c = 0; c < lastC; c++) {
                        if (!holdsAt(ring, law, a, b, c)) {
                            return MOST_PRODUCTS * a + MOST_ELEMENTS * b + c;
                        }
                    }
                }
            }
            return NONE;
        }

        /** a, b or c (1, 2 or 3) of a witness. */
        static int witnessElement(int witness, int which) {
            if (which == 1) {
                return witness / MOST_PRODUCTS;
            }
            return which == 2 ? witness / MOST_ELEMENTS % MOST_ELEMENTS : witness % MOST_ELEMENTS;
        }

        private static boolean holdsAt(Ring ring, int law, int a, int b, int c) {
            switch (law) {
                case 0:
                    return ring.times(0, a) == 0 && ring.times(a, 0) == 0;
                case 1:
                    return ring.times(1, a) == a && ring.times(a, 1) == a;
                case 2:
                    return ring.times(a, ring.sum(b, c)) == ring.sum(ring.times(a, b), ring.times(a, c));
                case 3:
                    return ring.times(ring.sum(a, b), c) == ring.sum(ring.times(a, c), ring.times(b, c));
                case 4:
                    return ring.times(ring.times(a, b), c) == ring.times(a, ring.times(b, c));
                case 5:
                    return ring.times(a, b) == ring.times(b, a);
                default:
                    return a == b || differencesOnce(ring, a, b, law == 6) == ring.size;
            }
        }

        /** Whether an element is in the set that elements() tells by this number. */
        static boolean isIn(Ring ring, int set, int a) {
            // commuting needs no third element
            int lastC = set == 0 ? 1 : ring.size;
            for (int b = 0; b < ring.size; b++) {
                for (int c = 0; c < lastC; c++) {
                    if (!fits(ring, set, a, b, c)) {
                        return false;
                    }
                }
            }
            return true;
        }

        private static boolean fits(Ring ring, int set, int a, int b, int c) {
            if (set == 0) {
                return holdsAt(ring, 5, a, b, 0);
            }
            return set == 1 ? holdsAt(ring, 3, b, c, a) : holdsAt(ring, 4, a, b, c);
        }

        /**
         * How many pairs of points (right), or of lines, have not just one line, or point, in common.
         * Only points (a, y) and (b, z) with a != b can be such a pair: on [m, y - a * m] both are
         * if a * m - b * m is y - z, so each element that is not just once among these differences
         * spoils as many pairs as there are z. For lines [a, y] and [b, z] it is the same on the left.
         */
        static int pairsApart(Ring ring, boolean right) {
            int spoilt = 0;
            for (int a = 1; a < ring.size; a++) {
                for (int b = 0; b < a; b++) {
                    spoilt += ring.size - differencesOnce(ring, a, b, right);
                }
            }
            return spoilt * ring.size;
        }

        /** How many elements are just once among a * x - b * x (right), or x * a - x * b, for all x. */
        private static int differencesOnce(Ring ring, int a, int b, boolean right) {
            int seen = 0;
            int again = 0;
            for (int x = 0; x < ring.size; x++) {
                int bit = 1 << ring.difference(ring.timesOnSide(a, x, right), ring.timesOnSide(b, x, right));
                again |= seen & bit;
                seen |= bit;
            }
            return Integer.bitCount(seen & ~again);
        }
    }

    /**
     * The points and lines of a ring. The points of a line and the lines of a point come lowest first.
     * By their numbers the last line is a line [n] of points (n, m), which stand for (m), and the
     * last point is a point (n) on lines [n, c], which stand for [c]: neither needs code of its own.
     */
    private static final class Plane {
        final Ring ring;

        Plane() {
            ring = new Ring();
        }

        int points() {
            return ring.size * ring.size + ring.size + 1;
        }

        boolean has(int number) {
            return number >= 0 && number < ring.size * ring.size + ring.size + 1;
        }

        boolean isPlane() {
            return Laws.pairsApart(ring, true) == 0 && Laws.pairsApart(ring, false) == 0;
        }

        boolean isOn(int point, int line) {
            int n = ring.size;
            if (n < 1 || !has(point) || !has(line)) {
                return false;
            }
            int beyond = n * n;
            if (line >= beyond) {
                return point / n == line - beyond || point == beyond + n;
            }
            int m = line / n;
            return point < beyond
                    ? point % n == ring.sum(ring.times(point / n, m), line % n)
                    : point == beyond + m;
        }

        int pointOf(int line, int index) {
            int n = ring.size;
            if (n < 1 || !has(line) || index < 0 || index > n) {
                return NONE;
            }
            int beyond = n * n;
            if (line >= beyond) {
                return index < n ? n * (line - beyond) + index : beyond + n;
            }
            int m = line / n;
            return index < n ? n * index + ring.sum(ring.times(index, m), line % n) : beyond + m;
        }

        int lineThrough(int point, int index) {
            int n = ring.size;
            if (n < 1 || !has(point) || index < 0 || index > n) {
                return NONE;
            }
            int beyond = n * n;
            if (point >= beyond) {
                return index < n ? n * (point - beyond) + index : beyond + n;
            }
            int x = point / n;
            return index < n ? n * index + ring.difference(point % n, ring.times(x, index)) : beyond + x;
        }

        int lineOf(int one, int other) {
            for (int index = 0; index <= ring.size; index++) {
                int line = lineThrough(one, index);
                if (isOn(other, line)) {
                    return line;
                }
            }
            return NONE;
        }

        int meetOf(int one, int other) {
            for (int index = 0; index <= ring.size; index++) {
                int point = pointOf(one, index);
                if (isOn(point, other)) {
                    return point;
                }
            }
            return NONE;
        }

        /** The point of a line with this index among those that are not the one left out. */
        private int pointBeside(int line, int leftOut, int index) {
            int point = pointOf(line, index);
            return point < leftOut ? point : pointOf(line, index + 1);
        }

        /** The meet of the line of a and b with the line of c and d. */
        private int crossing(int a, int b, int c, int d) {
            return meetOf(lineOf(a, b), lineOf(c, d));
        }

        private boolean onOneLine(int a, int b, int c) {
            for (int index = 0; index <= ring.size; index++) {
                int line = lineThrough(a, index);
                if (isOn(b, line) && isOn(c, line)) {
                    return true;
                }
            }
            return false;
        }

        /** What triangles() answers for good arguments in a plane. */
        int trianglesClose(int p, int l, int m, int k, int i, int j) {
            int first = lineThrough(p, l);
            int second = lineThrough(p, m);
            int third = lineThrough(p, k);
            int a = pointBeside(first, p, i);
            int b = pointBeside(second, p, i);
            int c = pointBeside(third, p, i);
            int d = pointBeside(first, p, j);
            int e = pointBeside(second, p, j);
            int f = pointBeside(third, p, j);
            if (onOneLine(a, b, c) || onOneLine(d, e, f)) {
                return NOT_POSSIBLE;
            }
            return onOneLine(crossing(a, b, d, e), crossing(a, c, d, f), crossing(b, c, e, f)) ? 1 : 0;
        }

        /** Whether the hexagon of two lines with at least four points closes in a plane. */
        boolean hexagonCloses(int one, int other) {
            int meet = meetOf(one, other);
            int a = pointBeside(one, meet, 0);
            int b = pointBeside(one, meet, 1);
            int c = pointBeside(one, meet, 2);
            int d = pointBeside(other, meet, 0);
            int e = pointBeside(other, meet, 1);
            int f = pointBeside(other, meet, 2);
            return onOneLine(crossing(a, e, b, d), crossing(a, f, c, d), crossing(b, f, c, e));
        }
    }

    /**
     * Counts the mirrors of a plane. A mirror is known by the image of one free point (one that is
     * neither the centre nor on the axis): each possible image makes one map, which is a mirror if
     * it leads lines to lines. The map is always one-to-one, for it leads each line through the
     * centre to the axis as seen from the free point, and back as seen from its image.
     */
    private static final class Mirrors {
        /** By point: its line through the centre, or NONE if the point is not free. */
        private final int[] rays;
        /** By free point: where its line with the base, or with the helper, meets the axis. */
        private final int[] feet;
        private final int[] images;
        /** The points of the plane are those below it. */
        private int end;
        private int baseRay;
        private int helper;

        Mirrors() {
            rays = new int[MOST_POINTS];
            feet = new int[MOST_POINTS];
            images = new int[MOST_POINTS];
        }

        int tally(Plane plane, int axis, int centre) {
            layRays(plane, axis, centre);
            layFeet(plane, axis);
            int found = 0;
            for (int index = 0; index <= plane.ring.size; index++) {
                int image = plane.pointOf(baseRay, index);
                if (rayOf(image) != NONE && isMirror(plane, image)) {
                    found++;
                }
            }
            return found;
        }

        private void layRays(Plane plane, int axis, int centre) {
            end = plane.points();
            for (int point = 0; point < end && point < MOST_POINTS; point++) {
                boolean free = point != centre && !plane.isOn(point, axis);
                rays[point] = free ? plane.lineOf(centre, point) : NONE;
                images[point] = point;
            }
        }

        /** The base sees no foot for points of its own ray, so these are seen from the helper. */
        private void layFeet(Plane plane, int axis) {
            int base = lowestFree(NONE);
            baseRay = rayOf(base);
            helper = lowestFree(baseRay);
            for (int point = 0; point < end && point < MOST_POINTS; point++) {
                int seenFrom = rays[point] == baseRay ? helper : base;
                feet[point] = rays[point] == NONE ? NONE : plane.meetOf(plane.lineOf(seenFrom, point), axis);
            }
        }

        private int lowestFree(int leftOutRay) {
            for (int point = 0; point < end && point < MOST_POINTS; point++) {
                if (rayOf(point) != NONE && rayOf(point) != leftOutRay) {
                    return point;
                }
            }
            return NONE;
        }

        private int rayOf(int point) {
            return point >= 0 && point < rays.length ? rays[point] : NONE;
        }

        private int imageOf(int point) {
            return point >= 0 && point < images.length ? images[point] : NONE;
        }

        private boolean isMirror(Plane plane, int imageOfBase) {
            lead(plane, false, imageOfBase);
            lead(plane, true, imageOf(helper));
            for (int line = 0; line < end; line++) {
                if (!leadsToLine(plane, line)) {
                    return false;
                }
            }
            return true;
        }

        /** Finds the images of the free points of the base's ray, or of all others. */
        private void lead(Plane plane, boolean onBaseRay, int seenFrom) {
            for (int point = 0; point < end && point < MOST_POINTS; point++) {
                if (rays[point] != NONE && (rays[point] == baseRay) == onBaseRay) {
                    images[point] = plane.meetOf(rays[point], plane.lineOf(feet[point], seenFrom));
                }
            }
        }

        private boolean leadsToLine(Plane plane, int line) {
            int first = imageOf(plane.pointOf(line, 0));
            int second = imageOf(plane.pointOf(line, 1));
            int image = plane.lineOf(first, second);
            for (int index = 2; index <= plane.ring.size; index++) {
                if (!plane.isOn(imageOf(plane.pointOf(line, index)), image)) {
                    return false;
                }
            }
            return true;
        }
    }

    /** The latest states of a ring, oldest first. */
    private static final class History {
        private final int[] sizes;
        private final int[] products;
        int count;

        History() {
            sizes = new int[MOST_STATES];
            products = new int[MOST_STATES * MOST_PRODUCTS];
        }

        void keep(Ring ring) {
            if (count >= MOST_STATES) {
                dropOldest();
            }
            if (count >= 0 && count < MOST_STATES) {
                sizes[count] = ring.size;
                System.arraycopy(ring.products, 0, products, count * MOST_PRODUCTS, MOST_PRODUCTS);
                count++;
            }
        }

        void restore(Ring ring) {
            if (count > 0 && count <= MOST_STATES) {
                count--;
                ring.size = sizes[count];
                System.arraycopy(products, count * MOST_PRODUCTS, ring.products, 0, MOST_PRODUCTS);
            }
        }

        private void dropOldest() {
            int kept = MOST_STATES - 1;
            System.arraycopy(sizes, 1, sizes, 0, kept);
            System.arraycopy(products, MOST_PRODUCTS, products, 0, kept * MOST_PRODUCTS);
            count = kept;
        }
    }

    /** Products like "1*2=2;", one behind the other. */
    private static final class Text {
        private static final int PRODUCT_LENGTH = 6;
        private static final int WRONG_FORM = 1;
        private static final int WRONG_ELEMENT = 2;

        private final char[] signs;
        int length;

        Text() {
            signs = new char[MOST_SIGNS];
        }

        /** Answers whether there was room. */
        boolean append(char sign) {
            if (length < 0 || length >= signs.length) {
                return false;
            }
            signs[length] = sign;
            length++;
            return true;
        }

        int faultPlace(Ring ring) {
            for (int start = 0; start < length; start += PRODUCT_LENGTH) {
                if (reason(start, ring) != 0) {
                    return start;
                }
            }
            return NONE;
        }

        /** The reason why the product that starts here is at fault, or 0. */
        int reason(int start, Ring ring) {
            int a = digit(start);
            int b = digit(start + 2);
            int result = digit(start + 4);
            boolean digits = a != NONE && b != NONE && result != NONE;
            if (!digits || sign(start + 1) != '*' || sign(start + 3) != '=' || sign(start + 5) != ';') {
                return WRONG_FORM;
            }
            return ring.has(a) && ring.has(b) && ring.has(result) ? 0 : WRONG_ELEMENT;
        }

        /** Sets the products of a text without a fault and answers how many there are. */
        int setProducts(Ring ring) {
            int played = 0;
            for (int start = 0; start < length; start += PRODUCT_LENGTH) {
                ring.setProduct(digit(start), digit(start + 2), digit(start + 4));
                played++;
            }
            return played;
        }

        private int digit(int place) {
            int sign = sign(place);
            return sign >= '0' && sign <= '9' ? sign - '0' : NONE;
        }

        /** The sign at a place, or 0, which no text holds, behind the end. */
        private int sign(int place) {
            return place >= 0 && place < length && place < signs.length ? signs[place] : 0;
        }
    }
}

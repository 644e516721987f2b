import java.util.ArrayDeque;
import java.util.ArrayList;
import java.util.Deque;
import java.util.List;

/** The document written down a second time: by search over whole sets, without a thought of speed. */
final class Reference {
    static final int INVALID = -1000001;
    static final int IMPOSSIBLE = -1000002;
    static final int LIMIT = -1000003;
    static final int MISSING = -1000004;

    private int n = 3;
    private int[][] mul = fieldTable(3);
    private final Deque<int[][]> history = new ArrayDeque<>();
    private final StringBuilder text = new StringBuilder();
    private List<List<Integer>> lines;
    private boolean[][] incident;

    private static int sumOf(int n, int a, int b) {
        if (n == 4) {
            return a ^ b;
        }
        if (n == 9) {
            return (a / 3 + b / 3) % 3 * 3 + (a % 3 + b % 3) % 3;
        }
        return (a + b) % n;
    }

    private static int fieldProduct(int n, int a, int b) {
        if (n == 4) {
            int[][] table = {{0, 0, 0, 0}, {0, 1, 2, 3}, {0, 2, 3, 1}, {0, 3, 1, 2}};
            return table[a][b];
        }
        if (n == 9) {
            int u = a / 3;
            int v = a % 3;
            int s = b / 3;
            int t = b % 3;
            return 3 * Math.floorMod(u * t + v * s, 3) + Math.floorMod(v * t - u * s, 3);
        }
        return a * b % n;
    }

    private static int[][] fieldTable(int n) {
        int[][] table = new int[n][n];
        for (int a = 0; a < n; a++) {
            for (int b = 0; b < n; b++) {
                table[a][b] = fieldProduct(n, a, b);
            }
        }
        return table;
    }

    private int sum(int a, int b) {
        return sumOf(n, a, b);
    }

    private int difference(int a, int b) {
        for (int c = 0; c < n; c++) {
            if (sum(b, c) == a) {
                return c;
            }
        }
        throw new IllegalStateException("no difference");
    }

    private boolean element(int a) {
        return a >= 0 && a < n;
    }

    private void record() {
        int[][] copy = new int[n][];
        for (int a = 0; a < n; a++) {
            copy[a] = mul[a].clone();
        }
        history.addLast(copy);
        if (history.size() > 4) {
            history.removeFirst();
        }
    }

    private int become(int[][] table) {
        int changed = 0;
        if (table.length == n) {
            for (int a = 0; a < n; a++) {
                for (int b = 0; b < n; b++) {
                    changed += table[a][b] == mul[a][b] ? 0 : 1;
                }
            }
        }
        n = table.length;
        mul = table;
        lines = null;
        return changed;
    }

    int field(int size) {
        if (!List.of(2, 3, 4, 5, 7, 9).contains(size)) {
            return INVALID;
        }
        int before = n;
        record();
        become(fieldTable(size));
        return before;
    }

    int twist() {
        if (n != 9) {
            return IMPOSSIBLE;
        }
        record();
        boolean[] square = new boolean[9];
        for (int x = 0; x < 9; x++) {
            square[fieldProduct(9, x, x)] = true;
        }
        int[][] table = new int[9][9];
        for (int a = 0; a < 9; a++) {
            for (int b = 0; b < 9; b++) {
                int left = b == 0 || square[b] ? a : fieldProduct(9, fieldProduct(9, a, a), a);
                table[a][b] = fieldProduct(9, left, b);
            }
        }
        return become(table);
    }

    int product(int a, int b, int result) {
        if (!element(a) || !element(b) || !element(result)) {
            return INVALID;
        }
        record();
        int before = mul[a][b];
        mul[a][b] = result;
        lines = null;
        return before;
    }

    int exchange() {
        record();
        int[][] table = new int[n][n];
        for (int a = 0; a < n; a++) {
            for (int b = 0; b < n; b++) {
                table[a][b] = mul[b][a];
            }
        }
        return become(table);
    }

    int by(int a, int b, int what) {
        if (!element(a) || !element(b) || what < 0 || what > 4) {
            return INVALID;
        }
        if (what < 3) {
            return what == 0 ? sum(a, b) : what == 1 ? difference(a, b) : mul[a][b];
        }
        for (int x = 0; x < n; x++) {
            if ((what == 3 ? mul[a][x] : mul[x][a]) == b) {
                return x;
            }
        }
        return MISSING;
    }

    private boolean holds(int law, int a, int b, int c) {
        switch (law) {
            case 0: return mul[0][a] == 0 && mul[a][0] == 0;
            case 1: return mul[1][a] == a && mul[a][1] == a;
            case 2: return mul[a][sum(b, c)] == sum(mul[a][b], mul[a][c]);
            case 3: return mul[sum(a, b)][c] == sum(mul[a][c], mul[b][c]);
            case 4: return mul[mul[a][b]][c] == mul[a][mul[b][c]];
            case 5: return mul[a][b] == mul[b][a];
            default:
        }
        for (int x = 0; a != b && x < n; x++) {
            for (int y = 0; y < x; y++) {
                int one = law == 6 ? difference(mul[a][x], mul[b][x]) : difference(mul[x][a], mul[x][b]);
                int other = law == 6 ? difference(mul[a][y], mul[b][y]) : difference(mul[y][a], mul[y][b]);
                if (one == other) {
                    return false;
                }
            }
        }
        return true;
    }

    private int[] witness(int law) {
        for (int a = 0; a < n; a++) {
            for (int b = 0; b < n; b++) {
                for (int c = 0; c < n; c++) {
                    if (!holds(law, a, b, c)) {
                        return new int[] {a, b, c};
                    }
                }
            }
        }
        return null;
    }

    int law(int law, int what) {
        if (law < 0 || law > 7 || what < 0 || what > 3) {
            return INVALID;
        }
        int[] witness = witness(law);
        if (what == 0) {
            return witness == null ? 1 : 0;
        }
        return witness == null ? MISSING : witness[what - 1];
    }

    int elements(int what) {
        if (what < 0 || what > 2) {
            return INVALID;
        }
        int set = 0;
        for (int a = 0; a < n; a++) {
            boolean in = true;
            for (int b = 0; b < n; b++) {
                for (int c = 0; c < n; c++) {
                    in &= what == 0 ? mul[a][b] == mul[b][a]
                            : what == 1 ? mul[sum(b, c)][a] == sum(mul[b][a], mul[c][a])
                            : mul[mul[a][b]][c] == mul[a][mul[b][c]];
                }
            }
            set += in ? 1 << a : 0;
        }
        return set;
    }

    private int points() {
        return n * n + n + 1;
    }

    private boolean number(int p) {
        return p >= 0 && p < points();
    }

    private void lay() {
        if (lines != null) {
            return;
        }
        lines = new ArrayList<>();
        for (int m = 0; m < n; m++) {
            for (int b = 0; b < n; b++) {
                List<Integer> line = new ArrayList<>();
                for (int x = 0; x < n; x++) {
                    line.add(n * x + sum(mul[x][m], b));
                }
                line.add(n * n + m);
                lines.add(line);
            }
        }
        for (int c = 0; c < n; c++) {
            List<Integer> line = new ArrayList<>();
            for (int y = 0; y < n; y++) {
                line.add(n * c + y);
            }
            line.add(n * n + n);
            lines.add(line);
        }
        List<Integer> last = new ArrayList<>();
        for (int m = 0; m <= n; m++) {
            last.add(n * n + m);
        }
        lines.add(last);
        incident = new boolean[points()][points()];
        for (int line = 0; line < points(); line++) {
            for (int point : lines.get(line)) {
                incident[point][line] = true;
            }
        }
    }

    private boolean is(int point, int line) {
        lay();
        return incident[point][line];
    }

    int on(int point, int line) {
        return !number(point) || !number(line) ? INVALID : is(point, line) ? 1 : 0;
    }

    int at(int number, int which, int index) {
        if (!number(number) || which < 0 || which > 1 || index < 0) {
            return INVALID;
        }
        long skipped = 0;
        for (int other = 0; other < points(); other++) {
            if (which == 0 ? is(other, number) : is(number, other)) {
                if (skipped == index) {
                    return other;
                }
                skipped++;
            }
        }
        return MISSING;
    }

    private List<Integer> common(int one, int other, int which) {
        List<Integer> found = new ArrayList<>();
        for (int k = 0; k < points(); k++) {
            if (which == 0 ? is(one, k) && is(other, k) : is(k, one) && is(k, other)) {
                found.add(k);
            }
        }
        return found;
    }

    int join(int one, int other, int which) {
        if (!number(one) || !number(other) || one == other || which < 0 || which > 1) {
            return INVALID;
        }
        List<Integer> found = common(one, other, which);
        return found.isEmpty() ? MISSING : found.get(0);
    }

    int plane(int what) {
        if (what < 0 || what > 2) {
            return INVALID;
        }
        if (what == 0) {
            return plane(1) == 0 && plane(2) == 0 ? 1 : 0;
        }
        int wrong = 0;
        for (int one = 0; one < points(); one++) {
            for (int other = 0; other < one; other++) {
                wrong += common(one, other, what - 1).size() == 1 ? 0 : 1;
            }
        }
        return wrong;
    }

    private boolean collinear(int a, int b, int c) {
        for (int line = 0; line < points(); line++) {
            if (is(a, line) && is(b, line) && is(c, line)) {
                return true;
            }
        }
        return false;
    }

    private int cross(int a, int b, int c, int d) {
        return join(join(a, b, 0), join(c, d, 0), 1);
    }

    private int beside(int line, int point, int index) {
        List<Integer> others = new ArrayList<>();
        for (int k = 0; k < points(); k++) {
            if (k != point && is(k, line)) {
                others.add(k);
            }
        }
        return others.get(index);
    }

    private boolean between(int number, int last) {
        return number >= 0 && number <= last;
    }

    int triangles(int p, int l, int m, int k, int i, int j) {
        if (!number(p) || !between(l, n) || !between(m, n) || !between(k, n) || l == m || l == k || m == k
                || !between(i, n - 1) || !between(j, n - 1) || i == j) {
            return INVALID;
        }
        return plane(0) == 0 ? IMPOSSIBLE : seen(p, new int[] {l, m, k}, i, j);
    }

    private int seen(int p, int[] rays, int i, int j) {
        int[] one = new int[3];
        int[] two = new int[3];
        for (int r = 0; r < 3; r++) {
            int line = at(p, 1, rays[r]);
            one[r] = beside(line, p, i);
            two[r] = beside(line, p, j);
        }
        if (collinear(one[0], one[1], one[2]) || collinear(two[0], two[1], two[2])) {
            return IMPOSSIBLE;
        }
        return collinear(cross(one[0], one[1], two[0], two[1]), cross(one[0], one[2], two[0], two[2]),
                cross(one[1], one[2], two[1], two[2])) ? 1 : 0;
    }

    int open(int p) {
        if (!number(p)) {
            return INVALID;
        }
        if (plane(0) == 0) {
            return IMPOSSIBLE;
        }
        int open = 0;
        for (int i = 0; i < n; i++) {
            for (int j = i + 1; j < n; j++) {
                open += seen(p, new int[] {0, 1, 2}, i, j) == 0 ? 1 : 0;
            }
        }
        return open;
    }

    int hexagon(int one, int other) {
        if (!number(one) || !number(other) || one == other) {
            return INVALID;
        }
        if (n + 1 < 4 || plane(0) == 0) {
            return IMPOSSIBLE;
        }
        int meet = join(one, other, 1);
        int[] p = new int[3];
        int[] q = new int[3];
        for (int k = 0; k < 3; k++) {
            p[k] = beside(one, meet, k);
            q[k] = beside(other, meet, k);
        }
        return collinear(cross(p[0], q[1], p[1], q[0]), cross(p[0], q[2], p[2], q[0]),
                cross(p[1], q[2], p[2], q[1])) ? 1 : 0;
    }

    int mirrors(int line, int point) {
        if (!number(line) || !number(point)) {
            return INVALID;
        }
        if (plane(0) == 0) {
            return IMPOSSIBLE;
        }
        int[][] lineOf = new int[points()][points()];
        for (int a = 0; a < points(); a++) {
            for (int b = 0; b < a; b++) {
                lineOf[a][b] = join(a, b, 0);
                lineOf[b][a] = lineOf[a][b];
            }
        }
        // the points of the line come first, so that wrong images of others are seen early
        List<Integer> order = new ArrayList<>();
        List<List<Integer>> allowed = new ArrayList<>();
        for (int turn = 1; turn >= 0; turn--) {
            for (int next = 0; next < points(); next++) {
                if (is(next, line) == (turn == 1)) {
                    order.add(next);
                    allowed.add(turn == 1 ? List.of(next) : sameRays(next, point));
                }
            }
        }
        return maps(0, order, allowed, new int[points()], new boolean[points()], lineOf);
    }

    /** The points that are on every line that is through the point and through this one. */
    private List<Integer> sameRays(int from, int point) {
        List<Integer> found = new ArrayList<>();
        for (int to = 0; to < points(); to++) {
            boolean kept = true;
            for (int ray = 0; ray < points(); ray++) {
                kept &= !is(point, ray) || !is(from, ray) || is(to, ray);
            }
            if (kept) {
                found.add(to);
            }
        }
        return found;
    }

    /** Tries each image of each point in turn that leads points on one line to points on one line. */
    private int maps(int at, List<Integer> order, List<List<Integer>> allowed, int[] image, boolean[] used,
            int[][] lineOf) {
        if (at == points()) {
            return 1;
        }
        int found = 0;
        for (int to : allowed.get(at)) {
            if (!used[to] && fits(at, order, to, image, lineOf)) {
                image[order.get(at)] = to;
                used[to] = true;
                found += maps(at + 1, order, allowed, image, used, lineOf);
                used[to] = false;
            }
        }
        return found;
    }

    private boolean fits(int at, List<Integer> order, int to, int[] image, int[][] lineOf) {
        for (int i = 0; i < at; i++) {
            int a = order.get(i);
            for (int j = 0; j < i; j++) {
                int b = order.get(j);
                if (is(b, lineOf[order.get(at)][a]) && !is(image[b], lineOf[to][image[a]])) {
                    return false;
                }
            }
        }
        return true;
    }

    int share() {
        int holding = 0;
        for (int law = 0; law < 8; law++) {
            holding += witness(law) == null ? 1 : 0;
        }
        return Float.floatToIntBits((float) holding / 8);
    }

    int count(int what) {
        int count = 0;
        switch (what) {
            case 0: return n;
            case 1: return points();
            case 2:
            case 3:
                for (int a = 0; a < n; a++) {
                    for (int b = 0; b < n; b++) {
                        count += what == 2 && mul[a][b] != fieldProduct(n, a, b) || what == 3 && mul[a][b] == 0 ? 1 : 0;
                    }
                }
                return count;
            case 4: return history.size();
            case 5: return text.length();
            default: return INVALID;
        }
    }

    int undo() {
        if (history.isEmpty()) {
            return IMPOSSIBLE;
        }
        become(history.removeLast());
        return history.size();
    }

    int type(int character) {
        if (character < 32 || character > 126) {
            return INVALID;
        }
        if (text.length() == 60) {
            return LIMIT;
        }
        text.append((char) character);
        return text.length();
    }

    int clearText() {
        int before = text.length();
        text.setLength(0);
        return before;
    }

    private int[] faultOf() {
        String rest = text.toString();
        int place = 0;
        while (!rest.isEmpty()) {
            if (!rest.matches("(?s)[0-9]\\*[0-9]=[0-9];.*")) {
                return new int[] {place, 1};
            }
            for (int k = 0; k <= 4; k += 2) {
                if (!element(rest.charAt(k) - '0')) {
                    return new int[] {place, 2};
                }
            }
            rest = rest.substring(6);
            place += 6;
        }
        return null;
    }

    int fault(int what) {
        if (what < 0 || what > 1) {
            return INVALID;
        }
        int[] fault = faultOf();
        return fault == null ? MISSING : fault[what];
    }

    int play() {
        if (faultOf() != null) {
            return IMPOSSIBLE;
        }
        record();
        int count = 0;
        for (String one : text.toString().split(";")) {
            if (!one.isEmpty()) {
                mul[one.charAt(0) - '0'][one.charAt(2) - '0'] = one.charAt(4) - '0';
                count++;
            }
        }
        lines = null;
        return count;
    }
}

/** Promises 1 to 23: long runs of mixed calls, each answer against that of the reference. */
public final class RandomRunsTest {
    private static final int[] SIZES = {2, 3, 4, 5, 7, 9};
    private static final int CALLS = 512;

    private final Check check = new Check("RandomRunsTest");
    private long seed;
    private RingPlanes real;
    private Reference due;
    private int calls;
    private int run;

    public static void main(String[] args) {
        new RandomRunsTest().all();
    }

    private void all() {
        for (run = 0; run < 180; run++) {
            seed = run * 7919L + 12345;
            real = new RingPlanes();
            due = new Reference();
            calls = 0;
            if (run % 3 == 1) {
                otherPlane(SIZES[run / 3 % 6]);
            } else if (run % 3 == 2) {
                call(0, 9, 0, 0, 0, 0, 0);
                call(1, 0, 0, 0, 0, 0, 0);
            }
            while (calls < CALLS) {
                step();
            }
        }
        check.end();
    }

    private int random(int below) {
        seed = seed * 6364136223846793005L + 1442695040888963407L;
        return (int) ((seed >>> 33) % below);
    }

    /** A plane of a ring whose products a * b became s(a) * t(b) + g(a) + h(b): no field, but a plane. */
    private void otherPlane(int n) {
        call(0, n, 0, 0, 0, 0, 0);
        call(1, 0, 0, 0, 0, 0, 0);
        int[] rows = shuffled(n);
        int[] columns = shuffled(n);
        int[][] products = new int[n][n];
        for (int a = 0; a < n; a++) {
            for (int b = 0; b < n; b++) {
                int product = due.by(rows[a], columns[b], 2);
                products[a][b] = due.by(due.by(product, (3 * a + run) % n, 0), (b + run) * b % n, 0);
            }
        }
        for (int a = 0; a < n; a++) {
            for (int b = 0; b < n; b++) {
                call(2, a, b, products[a][b], 0, 0, 0);
            }
        }
        call(10, 0, 0, 0, 0, 0, 0);
        check.due("run " + run + ": another plane", 1, real.plane(0));
        calls++;
    }

    private int[] shuffled(int n) {
        int[] row = new int[n];
        for (int k = 0; k < n; k++) {
            int place = random(k + 1);
            row[k] = row[place];
            row[place] = k;
        }
        return row;
    }

    /** A number below the bound, or sometimes one that is just out of range. */
    private int about(int bound) {
        return random(40) == 0 ? (random(2) == 0 ? -1 : bound) : random(bound);
    }

    private void step() {
        int n = due.count(0);
        int numbers = n * n + n + 1;
        int kind = random(100);
        if (kind < 3) {
            change(n);
        } else if (kind < 20) {
            text(n);
        } else if (kind < 32) {
            call(4, about(n), about(n), about(5), 0, 0, 0);
        } else if (kind < 42) {
            call(5, about(8), about(4), 0, 0, 0, 0);
        } else if (kind < 46) {
            call(6, about(3), 0, 0, 0, 0, 0);
        } else if (kind < 54) {
            call(7, about(numbers), about(numbers), 0, 0, 0, 0);
        } else if (kind < 62) {
            call(8, about(numbers), about(2), about(n + 2), 0, 0, 0);
        } else if (kind < 70) {
            call(9, about(numbers), about(numbers), about(2), 0, 0, 0);
        } else if (kind < 72) {
            call(10, about(3), 0, 0, 0, 0, 0);
        } else if (kind < 84) {
            call(12, about(numbers), about(n + 1), about(n + 1), about(n + 1), about(n), about(n));
        } else if (kind < 86) {
            call(13, about(numbers), 0, 0, 0, 0, 0);
        } else if (kind < 93) {
            call(14, about(numbers), about(numbers), 0, 0, 0, 0);
        } else if (kind < 94) {
            call(15, about(numbers), about(numbers), 0, 0, 0, 0);
        } else if (kind < 95) {
            call(16, 0, 0, 0, 0, 0, 0);
        } else {
            call(17, about(6), 0, 0, 0, 0, 0);
        }
    }

    private void change(int n) {
        int kind = random(10);
        if (kind < 2) {
            call(0, run % 2 == 0 ? random(11) : SIZES[random(6)], 0, 0, 0, 0, 0);
        } else if (kind < 4) {
            call(1, 0, 0, 0, 0, 0, 0);
        } else if (kind < 5) {
            call(2, about(n), about(n), about(n), 0, 0, 0);
        } else if (kind < 7) {
            call(3, 0, 0, 0, 0, 0, 0);
        } else {
            call(18, 0, 0, 0, 0, 0, 0);
        }
    }

    private void text(int n) {
        int kind = random(20);
        if (kind == 0) {
            call(19, about(128), 0, 0, 0, 0, 0);
        } else if (kind < 3) {
            call(20, 0, 0, 0, 0, 0, 0);
        } else if (kind < 11) {
            call(21, about(2), 0, 0, 0, 0, 0);
        } else if (kind < 12) {
            call(22, 0, 0, 0, 0, 0, 0);
        } else {
            typeProduct(n);
        }
    }

    private void typeProduct(int n) {
        int[] signs = {'0' + random(n), '*', '0' + random(n), '=', '0' + random(n), ';'};
        if (random(8) == 0) {
            signs[random(6)] = "0123456789*=;/: ".charAt(random(16));
        }
        for (int sign : signs) {
            call(19, sign, 0, 0, 0, 0, 0);
        }
    }

    private void call(int kind, int a, int b, int c, int d, int e, int f) {
        if (calls >= CALLS) {
            return;
        }
        calls++;
        String told = "run " + run + ", call " + calls + ": kind " + kind + " with "
                + a + ", " + b + ", " + c + ", " + d + ", " + e + ", " + f;
        check.due(told, dueAnswer(kind, a, b, c, d, e, f), realAnswer(kind, a, b, c, d, e, f));
    }

    private int realAnswer(int kind, int a, int b, int c, int d, int e, int f) {
        switch (kind) {
            case 0: return real.field(a);
            case 1: return real.twist();
            case 2: return real.product(a, b, c);
            case 3: return real.exchange();
            case 4: return real.by(a, b, c);
            case 5: return real.law(a, b);
            case 6: return real.elements(a);
            case 7: return real.on(a, b);
            case 8: return real.at(a, b, c);
            case 9: return real.join(a, b, c);
            case 10: return real.plane(a);
            case 12: return real.triangles(a, b, c, d, e, f);
            case 13: return real.open(a);
            case 14: return real.hexagon(a, b);
            case 15: return real.mirrors(a, b);
            case 16: return real.share();
            case 17: return real.count(a);
            case 18: return real.undo();
            case 19: return real.type(a);
            case 20: return real.clearText();
            case 21: return real.fault(a);
            default: return real.play();
        }
    }

    private int dueAnswer(int kind, int a, int b, int c, int d, int e, int f) {
        switch (kind) {
            case 0: return due.field(a);
            case 1: return due.twist();
            case 2: return due.product(a, b, c);
            case 3: return due.exchange();
            case 4: return due.by(a, b, c);
            case 5: return due.law(a, b);
            case 6: return due.elements(a);
            case 7: return due.on(a, b);
            case 8: return due.at(a, b, c);
            case 9: return due.join(a, b, c);
            case 10: return due.plane(a);
            case 12: return due.triangles(a, b, c, d, e, f);
            case 13: return due.open(a);
            case 14: return due.hexagon(a, b);
            case 15: return due.mirrors(a, b);
            case 16: return due.share();
            case 17: return due.count(a);
            case 18: return due.undo();
            case 19: return due.type(a);
            case 20: return due.clearText();
            case 21: return due.fault(a);
            default: return due.play();
        }
    }
}

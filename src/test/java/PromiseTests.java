import java.lang.reflect.InvocationTargetException;
import java.lang.reflect.Method;
import java.lang.reflect.Modifier;
import java.util.Arrays;
import java.util.Comparator;
import java.util.List;
import java.util.function.IntBinaryOperator;
import java.util.function.Supplier;
import java.util.function.ToIntFunction;
import java.util.stream.Collectors;

/**
 * The boundary cases of one promise. Each method of a class below this one that has no parameters and is neither
 * private nor static is a test of one sentence of the document, which its comment quotes.
 */
abstract class PromiseTests {
    static final int INVALID = -1000001;
    static final int IMPOSSIBLE = -1000002;
    static final int LIMIT = -1000003;
    static final int MISSING = -1000004;
    static final int[] SIZES = {2, 3, 4, 5, 7, 9};
    /** No argument has these in its range. */
    static final int[] FAR = {-1, -2, Integer.MIN_VALUE, Integer.MIN_VALUE + 1, -1000001, 65536, 1 << 30,
        Integer.MAX_VALUE - 1, Integer.MAX_VALUE};
    /** Ten products, so that no further character has room; each is good in every ring. */
    static final String FULL_TEXT = "1*1=0;0*1=1;".repeat(5);

    private static final int MOST_SHOWN = 20;

    private String running;
    private int compared;
    private int passed;
    private int failed;

    final void run() {
        if (!allPass()) {
            System.exit(1);
        }
    }

    final boolean allPass() {
        List<Method> tests = Arrays.stream(getClass().getDeclaredMethods())
                .filter(PromiseTests::isTest)
                .sorted(Comparator.comparing(Method::getName))
                .collect(Collectors.toList());
        for (Method test : tests) {
            runOne(test);
        }
        System.out.println(getClass().getName() + ": " + tests.size() + " tests, " + passed + " answers are as due, "
                + failed + " are not");
        return failed == 0 && !tests.isEmpty();
    }

    private static boolean isTest(Method method) {
        int barred = Modifier.STATIC | Modifier.PRIVATE;
        return (method.getModifiers() & barred) == 0 && method.getParameterCount() == 0 && !method.isSynthetic();
    }

    private void runOne(Method test) {
        running = getClass().getName() + "." + test.getName();
        compared = 0;
        try {
            test.invoke(this);
        } catch (InvocationTargetException thrown) {
            fail("threw " + thrown.getCause());
        } catch (IllegalAccessException closed) {
            fail("is closed: " + closed);
        }
        if (compared == 0) {
            fail("compares nothing");
        }
    }

    private void fail(String what) {
        failed++;
        if (failed <= MOST_SHOWN) {
            System.out.println(running + ": " + what);
        }
    }

    final void due(String call, int want, int got) {
        compared++;
        if (want == got) {
            passed++;
        } else {
            fail(call + " answered " + got + ", due is " + want);
        }
    }

    final void alike(String what, String want, String got) {
        compared++;
        if (want.equals(got)) {
            passed++;
        } else {
            fail(what + " shows " + got + ", due is " + want);
        }
    }

    static RingPlanes of(int n) {
        RingPlanes x = new RingPlanes();
        x.field(n);
        return x;
    }

    static RingPlanes twisted() {
        RingPlanes x = of(9);
        x.twist();
        return x;
    }

    /** The ring of n elements with these products, which are set by hand. */
    static RingPlanes ring(int n, IntBinaryOperator product) {
        RingPlanes x = of(n);
        for (int a = 0; a < n; a++) {
            for (int b = 0; b < n; b++) {
                x.product(a, b, product.applyAsInt(a, b));
            }
        }
        return x;
    }

    /** No plane: 0 * 0 is 1. */
    static RingPlanes noPlane(int n) {
        RingPlanes x = of(n);
        x.product(0, 0, 1);
        return x;
    }

    static RingPlanes with(String text) {
        RingPlanes x = new RingPlanes();
        type(x, text);
        return x;
    }

    static void type(RingPlanes x, String text) {
        for (int k = 0; k < text.length(); k++) {
            x.type(text.charAt(k));
        }
    }

    /** A field with four unlike states in its history, an older one that was dropped, and a text. */
    static RingPlanes busy(int n) {
        RingPlanes x = new RingPlanes();
        x.product(1, 1, 2);
        x.field(5);
        x.field(4);
        x.product(3, 3, 0);
        x.field(n);
        type(x, "1*0=1;0*1=0;");
        return x;
    }

    /** The same, but no plane. */
    static RingPlanes busyNoPlane(int n) {
        RingPlanes x = busy(n);
        x.product(0, 0, 1);
        return x;
    }

    /** The number of the last point, and of the last line. */
    static int last(int n) {
        return n * n + n;
    }

    static int sum(int n, int a, int b) {
        if (n == 4) {
            return a ^ b;
        }
        return n == 9 ? 3 * ((a / 3 + b / 3) % 3) + (a % 3 + b % 3) % 3 : (a + b) % n;
    }

    static int fieldProduct(int n, int a, int b) {
        if (n == 4) {
            return new int[][] {{0, 0, 0, 0}, {0, 1, 2, 3}, {0, 2, 3, 1}, {0, 3, 1, 2}}[a][b];
        }
        if (n == 9) {
            int first = a / 3 * (b % 3) + a % 3 * (b / 3);
            int second = a % 3 * (b % 3) - a / 3 * (b / 3);
            return 3 * Math.floorMod(first, 3) + Math.floorMod(second, 3);
        }
        return a * b % n;
    }

    final void products(String told, RingPlanes x, int n, IntBinaryOperator due) {
        for (int a = 0; a < n; a++) {
            for (int b = 0; b < n; b++) {
                due(told + ": " + a + " * " + b, due.applyAsInt(a, b), x.by(a, b, 2));
            }
        }
    }

    /** What later calls show of the present state. */
    static String view(RingPlanes x) {
        int n = x.count(0);
        StringBuilder seen = new StringBuilder();
        for (int place = 0; place < n * n; place++) {
            seen.append(x.by(place / n, place % n, 2));
        }
        seen.append(" of ").append(n).append(", states ").append(x.count(4)).append(", text ").append(x.count(5));
        return seen.append(", fault ").append(x.fault(0)).append(' ').append(x.fault(1)).toString();
    }

    /** All later calls answer of both objects the same: their present state, those of the history, and the text. */
    final void same(String told, RingPlanes want, RingPlanes got) {
        for (int step = 0; step < 6; step++) {
            alike(told + ", " + step + " times undone,", view(want), view(got));
            due(told + ": undo()", want.undo(), got.undo());
        }
        due(told + ": play()", want.play(), got.play());
        alike(told + " and played", view(want), view(got));
    }

    /** The call answers this, and leaves everything as it was. */
    final void leaves(String told, int answer, Supplier<RingPlanes> object, ToIntFunction<RingPlanes> call) {
        RingPlanes x = object.get();
        due(told, answer, call.applyAsInt(x));
        same("after " + told, object.get(), x);
    }
}

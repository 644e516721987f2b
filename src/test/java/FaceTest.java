import java.lang.reflect.Constructor;
import java.lang.reflect.Field;
import java.lang.reflect.Method;
import java.lang.reflect.Modifier;
import java.util.ArrayList;
import java.util.Arrays;
import java.util.List;
import java.util.TreeMap;
import java.util.TreeSet;

/** The document's face, and the rules of LANGUAGE.md (1, 2, 5, 11) about members. */
public final class FaceTest {
    private static final String[] METHODS = {"field 1", "twist 0", "product 3", "exchange 0", "by 3", "law 2",
        "elements 1", "on 2", "at 3", "join 3", "plane 1", "triangles 6", "open 1", "hexagon 2", "mirrors 2", "share 0",
        "count 1", "undo 0", "type 1", "clearText 0", "fault 1", "play 0"};

    private final Check check = new Check("FaceTest");

    public static void main(String[] args) {
        FaceTest test = new FaceTest();
        test.constants();
        test.methods();
        test.classes();
        test.check.end();
    }

    private void constants() {
        check.due("INVALID_ARGUMENT", -1000001, RingPlanes.INVALID_ARGUMENT);
        check.due("NOT_POSSIBLE", -1000002, RingPlanes.NOT_POSSIBLE);
        check.due("LIMIT_REACHED", -1000003, RingPlanes.LIMIT_REACHED);
        check.due("NOT_FOUND", -1000004, RingPlanes.NOT_FOUND);
        TreeSet<String> open = new TreeSet<>();
        for (Field field : RingPlanes.class.getDeclaredFields()) {
            if (!Modifier.isPrivate(field.getModifiers())) {
                open.add(Modifier.toString(field.getModifiers()) + " " + field.getType() + " " + field.getName());
            }
        }
        check.due("open fields: " + open, 4, open.size());
        for (String name : new String[] {"INVALID_ARGUMENT", "NOT_POSSIBLE", "LIMIT_REACHED", "NOT_FOUND"}) {
            check.holds(name, open.contains("public static final int " + name));
        }
    }

    private void methods() {
        List<String> due = new ArrayList<>(Arrays.asList(METHODS));
        TreeSet<String> names = new TreeSet<>();
        for (Method method : RingPlanes.class.getDeclaredMethods()) {
            if (Modifier.isPrivate(method.getModifiers())) {
                continue;
            }
            names.add(method.getName());
            check.due(method + ": modifiers", Modifier.PUBLIC, method.getModifiers());
            check.holds(method + ": answers an int", method.getReturnType() == int.class);
            check.holds(method + ": is of the face", due.remove(method.getName() + " " + method.getParameterCount()));
            for (Class<?> type : method.getParameterTypes()) {
                check.holds(method + ": takes ints", type == int.class);
            }
        }
        check.due("missing methods: " + due, 0, due.size());
        for (Method method : RingPlanes.class.getDeclaredMethods()) {
            if (Modifier.isPrivate(method.getModifiers())) {
                check.holds(method + ": has a name of its own", !names.contains(method.getName()));
            }
        }
        Constructor<?>[] constructors = RingPlanes.class.getDeclaredConstructors();
        check.due("constructors", 1, constructors.length);
        check.due("constructor", Modifier.PUBLIC, constructors[0].getModifiers());
        check.due("its parameters", 0, constructors[0].getParameterCount());
    }

    private void classes() {
        check.due("modifiers", Modifier.PUBLIC | Modifier.FINAL, RingPlanes.class.getModifiers());
        Class<?>[] inside = RingPlanes.class.getDeclaredClasses();
        check.holds("some twelve classes", inside.length <= 14);
        for (Class<?> type : inside) {
            int modifiers = type.getModifiers();
            check.holds(type + ": static", Modifier.isStatic(modifiers));
            check.holds(type + ": closed", !Modifier.isPublic(modifiers) && !Modifier.isProtected(modifiers));
            members(type);
        }
        members(RingPlanes.class);
    }

    private void members(Class<?> type) {
        TreeMap<String, Integer> kinds = new TreeMap<>();
        for (Field field : type.getDeclaredFields()) {
            boolean fixed = Modifier.isStatic(field.getModifiers());
            kinds.merge(fixed ? "static" : "own", 1, Integer::sum);
            check.holds(field + ": a static field is final", !fixed || Modifier.isFinal(field.getModifiers()));
            check.holds(field + ": a static field is a constant", !fixed || type.isEnum() || isConstant(field.getType()));
        }
        check.holds(type + ": some twenty fields", kinds.getOrDefault("own", 0) <= 20);
        for (Method method : type.getDeclaredMethods()) {
            check.holds(method + ": at most seven parameters", method.getParameterCount() <= 7);
        }
    }

    private static boolean isConstant(Class<?> type) {
        return type == int.class || type == long.class || type == boolean.class || type == char.class
                || type == String.class || type.isArray();
    }
}

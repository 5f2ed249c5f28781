import java.lang.management.ManagementFactory;
import java.lang.reflect.Array;
import java.lang.reflect.Constructor;
import java.lang.reflect.Field;
import java.lang.reflect.Method;
import java.lang.reflect.Modifier;
import java.util.ArrayDeque;
import java.util.Arrays;
import java.util.Deque;
import java.util.HashSet;
import java.util.IdentityHashMap;
import java.util.Map;
import java.util.Set;

/** The face has what the document says and no more, and objects are small and make nothing new when called. */
public final class FaceTest {
    private static final Set<String> FACE = Set.of(
            "boolean hole(int, int)", "boolean edge(int, int, boolean)", "boolean ends(int, int)", "int edges()",
            "int end(int, boolean)", "boolean force(int, int)", "long count()", "int digit(int)",
            "boolean draw(long)", "boolean drawn(int)", "long rank()");
    /* 512 objects of this size leave the room of a run (7.3 million) almost half empty. */
    private static final int MOST_ELEMENTS = 8000;
    private static final int MOST_OBJECTS = 20;
    private static final int ROUNDS = 100;
    private final Check check = new Check();

    public static void main(String[] args) throws IllegalAccessException {
        FaceTest test = new FaceTest();
        test.face();
        test.members();
        for (int kind = 0; kind <= 4; kind++) {
            test.size(kind);
            test.makesNothing(kind);
        }
        test.check.end();
    }

    private void face() {
        check.due("class is public and final", FrontierCounts.class.getModifiers(), Modifier.PUBLIC | Modifier.FINAL);
        Set<String> found = new HashSet<>();
        for (Method method : FrontierCounts.class.getDeclaredMethods()) {
            if (!Modifier.isPrivate(method.getModifiers())) {
                check.due(method + " is public and no more", method.getModifiers(), Modifier.PUBLIC);
                String types = Arrays.toString(method.getParameterTypes());
                found.add(method.getReturnType() + " " + method.getName() + "("
                        + types.substring(1, types.length() - 1) + ")");
            }
        }
        check.due("methods " + found + " are those of the face", found.equals(FACE), true);
        Constructor<?>[] constructors = FrontierCounts.class.getDeclaredConstructors();
        check.due("constructors", constructors.length, 1);
        check.due(constructors[0] + " is the one of the face", constructors[0].toString()
                .equals("public FrontierCounts(int,int,int)"), true);
    }

    private void members() {
        Set<String> names = new HashSet<>();
        for (Method method : FrontierCounts.class.getMethods()) {
            names.add(method.getName());
        }
        for (Field field : FrontierCounts.class.getDeclaredFields()) {
            check.due(field + " is private", Modifier.isPrivate(field.getModifiers()), true);
        }
        for (Class<?> inside : FrontierCounts.class.getDeclaredClasses()) {
            check.due(inside + " is static", Modifier.isStatic(inside.getModifiers()), true);
            for (Method method : inside.getDeclaredMethods()) {
                check.due(method + " has a name of its own", names.contains(method.getName()), false);
            }
        }
        for (Method method : FrontierCounts.class.getDeclaredMethods()) {
            boolean own = Modifier.isPrivate(method.getModifiers());
            check.due(method + " has a name of its own", own && names.contains(method.getName()), false);
        }
    }

    private void size(int kind) throws IllegalAccessException {
        Map<Object, Boolean> seen = new IdentityHashMap<>();
        Deque<Object> open = new ArrayDeque<>();
        FrontierCounts x = new FrontierCounts(kind, 5, 5);
        open.add(x);
        seen.put(x, true);
        int elements = 0;
        while (!open.isEmpty()) {
            Object object = open.remove();
            if (object.getClass().isArray()) {
                elements += Array.getLength(object);
                continue;
            }
            for (Class<?> c = object.getClass(); c != Object.class; c = c.getSuperclass()) {
                for (Field field : c.getDeclaredFields()) {
                    if (Modifier.isStatic(field.getModifiers())) {
                        continue;
                    }
                    elements++;
                    field.setAccessible(true);
                    Object value = field.getType().isPrimitive() ? null : field.get(object);
                    if (value != null && seen.put(value, true) == null) {
                        open.add(value);
                    }
                }
            }
        }
        System.out.println("kind " + kind + ": " + seen.size() + " objects, " + elements + " fields and elements");
        check.due("kind " + kind + ": few objects", seen.size() <= MOST_OBJECTS, true);
        check.due("kind " + kind + ": few elements", elements <= MOST_ELEMENTS, true);
    }

    private void makesNothing(int kind) {
        com.sun.management.ThreadMXBean threads =
                (com.sun.management.ThreadMXBean) ManagementFactory.getThreadMXBean();
        FrontierCounts x = new FrontierCounts(kind, 5, 5);
        callAll(x);
        long before = threads.getCurrentThreadAllocatedBytes();
        for (int i = 0; i < ROUNDS; i++) {
            callAll(x);
        }
        long made = threads.getCurrentThreadAllocatedBytes() - before;
        // Even the smallest object takes 16 bytes; what is below that may be the measure's own.
        check.due("kind " + kind + ": calls make nothing", made < 16 * ROUNDS, true);
    }

    private static void callAll(FrontierCounts x) {
        x.hole(2, 2);
        x.edge(0, 1, false);
        x.ends(3, 20);
        x.force(5, 1);
        x.edges();
        x.end(1, true);
        x.count();
        x.digit(2);
        x.draw(5);
        x.drawn(3);
        x.rank();
    }
}

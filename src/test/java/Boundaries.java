import java.lang.reflect.InvocationTargetException;
import java.lang.reflect.Method;
import java.util.Arrays;
import java.util.Comparator;

/** Runs each method of a class of tests whose name begins with that of a promise, so that none is forgotten. */
abstract class Boundaries {
    static final int PAIRS = 0;
    static final int PATH = 1;
    static final int LOOP = 2;
    static final int TREE = 3;
    static final int LOOPS = 4;
    static final int FREE = 0;
    static final int IN = 1;
    static final int OUT = 2;
    static final int LEAST = Integer.MIN_VALUE;
    static final int MOST = Integer.MAX_VALUE;
    /* Of busy(): 40 ways, 18 of them with the one, 24 without the other, 10 both. */
    static final int BUSY_IN = 5;
    static final int BUSY_OUT = 12;
    static final int BUSY_WAYS = 10;
    private final Check check = new Check();
    private String test = "";

    final void runAll() throws ReflectiveOperationException {
        Method[] methods = getClass().getDeclaredMethods();
        Arrays.sort(methods, Comparator.comparing(Method::getName));
        int tests = 0;
        for (Method method : methods) {
            if (method.getName().startsWith("promise")) {
                test = method.getName();
                tests++;
                run(method);
            }
        }
        System.out.println(tests + " tests");
        check.end();
    }

    private void run(Method method) throws IllegalAccessException {
        try {
            method.invoke(this);
        } catch (InvocationTargetException thrown) {
            due("a call threw " + thrown.getCause() + ": so many throws", 1, 0);
        }
    }

    final void due(String call, long got, long want) {
        check.due(test + ": " + call, got, want);
    }

    final void due(String call, boolean got, boolean want) {
        check.due(test + ": " + call, got, want);
    }

    /** That an object is in the same state as before, as far as calls can tell. */
    final void dueState(String call, FrontierCounts x, String before) {
        String after = state(x);
        due(call + ": from " + before + " to " + after + ": the same", after.equals(before), true);
    }

    /** All that can be asked: the edges and their ends, the number of ways (so ends, IN and OUT too), the way drawn. */
    static String state(FrontierCounts x) {
        StringBuilder text = new StringBuilder();
        for (int e = 0; e < x.edges(); e++) {
            text.append(x.end(e, false)).append('-').append(x.end(e, true)).append(x.drawn(e) ? "! " : " ");
        }
        return text.append("rank ").append(x.rank()).append(" of ").append(x.count()).toString();
    }

    /** The edges of the way drawn, each a digit, in the order of their numbers. */
    static String way(FrontierCounts x) {
        StringBuilder text = new StringBuilder();
        for (int e = 0; e < x.edges(); e++) {
            text.append(x.drawn(e) ? '1' : '0');
        }
        return text.toString();
    }

    static FrontierCounts path(int width, int height, int a, int b) {
        FrontierCounts x = new FrontierCounts(PATH, width, height);
        x.ends(a, b);
        return x;
    }

    /** Something of everything: holes, an edge taken away, ends, an edge IN, one OUT, a way drawn. */
    static FrontierCounts busy() {
        FrontierCounts x = new FrontierCounts(PATH, 4, 4);
        x.hole(3, 0);
        x.hole(0, 3);
        x.edge(5, 6, false);
        x.ends(0, 15);
        x.force(BUSY_IN, IN);
        x.force(BUSY_OUT, OUT);
        x.draw(1);
        return x;
    }

    /** A grid whose places are all holes. */
    static FrontierCounts withoutPlaces(int kind, int width, int height) {
        FrontierCounts x = new FrontierCounts(kind, width, height);
        x.ends(0, 1);
        for (int y = 0; y < height; y++) {
            for (int at = 0; at < width; at++) {
                x.hole(at, y);
            }
        }
        return x;
    }

    /** A grid without holes whose edges have all been taken away. */
    static FrontierCounts withoutEdges(int kind, int width, int height) {
        FrontierCounts x = new FrontierCounts(kind, width, height);
        while (x.edges() > 0 && x.edge(x.end(0, false), x.end(0, true), false)) {
            continue;
        }
        return x;
    }
}

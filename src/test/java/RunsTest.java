import java.util.Random;

/** Long runs of calls, wrong inputs among them, each answer compared with that of the Model. */
public final class RunsTest {
    private static final int RUNS = 600;
    private static final int[] ODD = {-1, 0, 1, 24, 25, 40, 64, 1000, Integer.MAX_VALUE, Integer.MIN_VALUE};
    private final Check check = new Check();
    private final Random random = new Random(20261115);

    public static void main(String[] args) {
        RunsTest test = new RunsTest();
        for (int run = 0; run < RUNS; run++) {
            test.run(run);
        }
        test.check.end();
    }

    private void run(int run) {
        int kind = run % 5;
        boolean large = random.nextInt(3) == 0;
        int width = large ? 4 + random.nextInt(2) : 1 + random.nextInt(5);
        int height = large ? 4 + random.nextInt(2) : 1 + random.nextInt(5);
        FrontierCounts x = new FrontierCounts(kind, width, height);
        Model model = new Model(kind, width, height);
        String name = "run " + run + " (" + kind + ", " + width + ", " + height + "): ";
        int calls = 10 + random.nextInt(50);
        for (int i = 0; i < calls; i++) {
            call(name, x, model);
            same(name, x, model);
        }
        check.due(name + "the model agrees with itself", model.agreesWithItself(), true);
    }

    private void call(String name, FrontierCounts x, Model model) {
        int a = someInt(model.places);
        int b = random.nextBoolean() ? someInt(model.places) : neighbour(a, model);
        int e = someInt(Math.max(1, model.edges()));
        switch (random.nextInt(12)) {
            case 0:
                int hx = someInt(model.width);
                int hy = someInt(model.height);
                check.due(name + "hole(" + hx + ", " + hy + ")", x.hole(hx, hy), model.hole(hx, hy));
                break;
            case 1:
            case 2:
                boolean on = random.nextInt(3) == 0;
                check.due(name + "edge(" + a + ", " + b + ", " + on + ")", x.edge(a, b, on), model.edge(a, b, on));
                break;
            case 3:
                check.due(name + "ends(" + a + ", " + b + ")", x.ends(a, b), model.ends(a, b));
                break;
            case 4:
            case 5:
            case 6:
                int how = random.nextInt(8) == 0 ? someInt(3) : random.nextInt(3);
                check.due(name + "force(" + e + ", " + how + ")", x.force(e, how), model.force(e, how));
                break;
            case 7:
                int i = someInt(10);
                check.due(name + "digit(" + i + ")", x.digit(i), model.digit(i));
                break;
            default:
                long seed = random.nextInt(4) == 0 ? random.nextInt(7) - 3 : random.nextLong();
                check.due(name + "draw(" + seed + ")", x.draw(seed), model.draw(seed));
        }
    }

    private int someInt(int below) {
        return random.nextInt(12) == 0 ? ODD[random.nextInt(ODD.length)] : random.nextInt(below);
    }

    private int neighbour(int a, Model model) {
        int[] steps = {1, -1, model.width, -model.width};
        return a + steps[random.nextInt(steps.length)];
    }

    private void same(String name, FrontierCounts x, Model model) {
        check.due(name + "edges()", x.edges(), model.edges());
        check.due(name + "rank()", x.rank(), model.rank());
        for (int e = -1; e <= model.edges(); e++) {
            check.due(name + "drawn(" + e + ")", x.drawn(e), model.drawn(e));
            check.due(name + "end(" + e + ", false)", x.end(e, false), model.end(e, false));
            check.due(name + "end(" + e + ", true)", x.end(e, true), model.end(e, true));
        }
        if (random.nextBoolean()) {
            check.due(name + "count()", x.count(), model.count());
        }
    }
}

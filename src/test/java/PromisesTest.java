/** Each promise by itself: ordinary inputs, the edges that the document names, and wrong inputs. */
public final class PromisesTest {
    private static final int PAIRS = 0;
    private static final int PATH = 1;
    private static final int LOOP = 2;
    private static final int TREE = 3;
    private static final int LOOPS = 4;
    private static final int[] WRONG = {Integer.MIN_VALUE, -2, -1, 25, 40, 64, 100, Integer.MAX_VALUE};
    private final Check check = new Check();

    public static void main(String[] args) {
        PromisesTest test = new PromisesTest();
        test.newObject();
        test.heldToLimits();
        test.hole();
        test.holeForgets();
        test.edge();
        test.edgeForgets();
        test.ends();
        test.edges();
        test.end();
        test.force();
        test.count();
        test.countOfSmallest();
        test.countWithoutPlaces();
        test.digit();
        test.draw();
        test.drawInOrder();
        test.drawn();
        test.rank();
        test.wrongInputsDoNothing();
        test.check.end();
    }

    private void newObject() {
        FrontierCounts x = new FrontierCounts(LOOP, 3, 2);
        check.due("1: edges()", x.edges(), 7);
        check.due("1: count()", x.count(), 3);
        check.due("1: rank()", x.rank(), -1);
        for (int e = 0; e < 7; e++) {
            check.due("1: drawn(" + e + ")", x.drawn(e), false);
        }
        check.due("1: no ends", new FrontierCounts(PATH, 2, 2).count(), 0);
    }

    private void heldToLimits() {
        check.due("1: kind -1 is 0", new FrontierCounts(-1, 2, 2).count(), 2);
        check.due("1: kind least is 0", new FrontierCounts(Integer.MIN_VALUE, 4, 4).count(), 36);
        check.due("1: kind 5 is 4", new FrontierCounts(5, 4, 4).count(), new FrontierCounts(LOOPS, 4, 4).count());
        check.due("1: kind most is 4", new FrontierCounts(Integer.MAX_VALUE, 4, 5).count(), 54);
        int[][] sides = {{0, 1}, {-7, 1}, {Integer.MIN_VALUE, 1}, {6, 5}, {Integer.MAX_VALUE, 5}, {3, 3}};
        for (int[] w : sides) {
            for (int[] h : sides) {
                FrontierCounts x = new FrontierCounts(TREE, w[0], h[0]);
                String call = "1: (3, " + w[0] + ", " + h[0] + ") ";
                check.due(call + "edges", x.edges(), (w[1] - 1) * h[1] + w[1] * (h[1] - 1));
                check.due(call + "last place", x.hole(w[1] - 1, h[1] - 1), true);
                check.due(call + "too far right", x.hole(w[1], 0), false);
                check.due(call + "too far down", x.hole(0, h[1]), false);
            }
        }
    }

    private void hole() {
        FrontierCounts x = new FrontierCounts(LOOP, 3, 3);
        check.due("2: count before", x.count(), 13);
        check.due("2: hole(1, 1)", x.hole(1, 1), true);
        check.due("2: edges", x.edges(), 8);
        check.due("2: count", x.count(), 1);
        check.due("2: end(0, true)", x.end(0, true), 1);
        check.due("2: end(2, false)", x.end(2, false), 1);
        check.due("2: hole no more", x.hole(1, 1), true);
        check.due("2: edges after", x.edges(), 12);
        check.due("2: count after", x.count(), 13);
        for (int wrong : WRONG) {
            check.due("2: hole(" + wrong + ", 0)", x.hole(wrong, 0), false);
            check.due("2: hole(0, " + wrong + ")", x.hole(0, wrong), false);
        }
        check.due("2: hole(3, 0)", x.hole(3, 0), false);
        check.due("2: hole(0, 3)", x.hole(0, 3), false);
        check.due("2: edges still", x.edges(), 12);
    }

    private void holeForgets() {
        FrontierCounts x = new FrontierCounts(TREE, 3, 3);
        check.due("2: trees", x.count(), 192);
        x.edge(0, 1, false);
        x.force(0, 1);
        x.force(1, 2);
        check.due("2: hole(2, 2)", x.hole(2, 2), true);
        check.due("2: hole(2, 2) again", x.hole(2, 2), true);
        check.due("2: all edges again", x.edges(), 12);
        check.due("2: none told", x.count(), 192);
        check.due("2: draw", x.draw(1), true);
        check.due("2: hole(0, 0)", x.hole(0, 0), true);
        check.due("2: nothing drawn", x.rank(), -1);
        FrontierCounts path = new FrontierCounts(PATH, 2, 2);
        path.ends(0, 3);
        path.hole(0, 0);
        check.due("2: an end is a hole", path.count(), 0);
        path.hole(0, 0);
        check.due("2: ends are kept", path.count(), 2);
    }

    private void edge() {
        FrontierCounts x = new FrontierCounts(TREE, 3, 3);
        check.due("3: on, it is so already", x.edge(0, 1, true), false);
        check.due("3: off", x.edge(0, 1, false), true);
        check.due("3: off, it is so already", x.edge(1, 0, false), false);
        check.due("3: edges", x.edges(), 11);
        check.due("3: end(0, true)", x.end(0, true), 3);
        check.due("3: on", x.edge(1, 0, true), true);
        check.due("3: edges again", x.edges(), 12);
        check.due("3: below", x.edge(4, 7, false), true);
        check.due("3: above", x.edge(4, 1, false), true);
        check.due("3: edges less two", x.edges(), 10);
        int[][] none = {{0, 0}, {0, 2}, {0, 4}, {2, 3}, {3, 2}, {5, 6}, {0, 6}, {8, 9}, {8, 11}, {-1, 0}, {-3, 0}};
        for (int[] pair : none) {
            check.due("3: edge(" + pair[0] + ", " + pair[1] + ", false)", x.edge(pair[0], pair[1], false), false);
            check.due("3: edge(" + pair[0] + ", " + pair[1] + ", true)", x.edge(pair[0], pair[1], true), false);
        }
        x.hole(1, 0);
        check.due("3: to a hole", x.edge(0, 1, false), false);
        check.due("3: from a hole", x.edge(1, 4, false), false);
        FrontierCounts column = new FrontierCounts(TREE, 1, 3);
        check.due("3: one column", column.edge(1, 2, false), true);
        check.due("3: one column, too far", column.edge(0, 2, false), false);
        check.due("3: one column, count", column.count(), 0);
    }

    private void edgeForgets() {
        FrontierCounts x = new FrontierCounts(LOOP, 3, 3);
        x.force(0, 1);
        check.due("3: told IN", x.count(), 7);
        x.draw(3);
        check.due("3: doing nothing", x.edge(0, 1, true), false);
        check.due("3: still told", x.count(), 7);
        check.due("3: still drawn", x.rank() >= 0, true);
        check.due("3: off", x.edge(7, 8, false), true);
        check.due("3: nothing drawn", x.rank(), -1);
        check.due("3: none told", x.count(), 6);
        x.force(0, 2);
        check.due("3: on", x.edge(7, 8, true), true);
        check.due("3: none told again", x.count(), 13);
    }

    private void ends() {
        FrontierCounts x = new FrontierCounts(PATH, 3, 3);
        check.due("4: ends(0, 8)", x.ends(0, 8), true);
        check.due("4: count", x.count(), 12);
        check.due("4: draw", x.draw(8), true);
        check.due("4: one place", x.ends(4, 4), false);
        for (int wrong : WRONG) {
            check.due("4: ends(" + wrong + ", 0)", x.ends(wrong, 0), false);
            check.due("4: ends(0, " + wrong + ")", x.ends(0, wrong), false);
        }
        check.due("4: ends(9, 0)", x.ends(9, 0), false);
        check.due("4: doing nothing", x.count(), 12);
        check.due("4: still drawn", x.rank() >= 0, true);
        check.due("4: the same ends", x.ends(0, 8), true);
        check.due("4: nothing drawn", x.rank(), -1);
        check.due("4: the other way round", x.ends(8, 0), true);
        check.due("4: count of these", x.count(), 12);
        x.hole(1, 1);
        check.due("4: a hole", x.ends(4, 0), true);
        check.due("4: no ways from a hole", x.count(), 0);
        check.due("4: nor one drawn", x.draw(0), false);
        FrontierCounts tree = new FrontierCounts(TREE, 2, 2);
        tree.draw(0);
        check.due("4: another kind", tree.ends(1, 2), true);
        check.due("4: another kind, nothing drawn", tree.rank(), -1);
        check.due("4: another kind, count", tree.count(), 4);
    }

    private void edges() {
        check.due("5: 1 by 1", new FrontierCounts(PAIRS, 1, 1).edges(), 0);
        check.due("5: 5 by 1", new FrontierCounts(PAIRS, 5, 1).edges(), 4);
        check.due("5: 1 by 5", new FrontierCounts(PAIRS, 1, 5).edges(), 4);
        check.due("5: 5 by 5", new FrontierCounts(PAIRS, 5, 5).edges(), 40);
        FrontierCounts x = new FrontierCounts(PAIRS, 5, 5);
        x.hole(2, 2);
        check.due("5: with a hole", x.edges(), 36);
        x.edge(0, 5, false);
        check.due("5: less one", x.edges(), 35);
        x.hole(0, 0);
        check.due("5: with two holes", x.edges(), 34);
    }

    private void end() {
        FrontierCounts x = new FrontierCounts(PAIRS, 3, 2);
        int[][] due = {{0, 1}, {0, 3}, {1, 2}, {1, 4}, {2, 5}, {3, 4}, {4, 5}};
        sameEnds("6: ", x, due);
        x.edge(1, 4, false);
        sameEnds("6: less one: ", x, new int[][] {{0, 1}, {0, 3}, {1, 2}, {2, 5}, {3, 4}, {4, 5}});
        x.hole(0, 1);
        sameEnds("6: with a hole: ", x, new int[][] {{0, 1}, {1, 2}, {1, 4}, {2, 5}, {4, 5}});
        sameEnds("6: one column: ", new FrontierCounts(PAIRS, 1, 3), new int[][] {{0, 1}, {1, 2}});
    }

    private void sameEnds(String name, FrontierCounts x, int[][] due) {
        check.due(name + "edges", x.edges(), due.length);
        for (int e = 0; e < due.length; e++) {
            check.due(name + "end(" + e + ", false)", x.end(e, false), due[e][0]);
            check.due(name + "end(" + e + ", true)", x.end(e, true), due[e][1]);
        }
        for (int wrong : new int[] {Integer.MIN_VALUE, -1, due.length, 50, Integer.MAX_VALUE}) {
            check.due(name + "end(" + wrong + ", false)", x.end(wrong, false), -1);
            check.due(name + "end(" + wrong + ", true)", x.end(wrong, true), -1);
        }
    }

    private void force() {
        FrontierCounts x = new FrontierCounts(PAIRS, 2, 2);
        check.due("7: IN", x.force(0, 1), true);
        check.due("7: count with it", x.count(), 1);
        check.due("7: draw", x.draw(5), true);
        check.due("7: how 3", x.force(0, 3), false);
        check.due("7: how -1", x.force(0, -1), false);
        check.due("7: edge 4", x.force(4, 1), false);
        check.due("7: edge -1", x.force(-1, 1), false);
        for (int wrong : WRONG) {
            check.due("7: force(" + wrong + ", 0)", x.force(wrong, 0), false);
            check.due("7: force(0, " + wrong + ")", x.force(0, wrong), false);
        }
        check.due("7: doing nothing", x.rank(), 0);
        check.due("7: that way", x.drawn(0), true);
        check.due("7: the same again", x.force(0, 1), true);
        check.due("7: nothing drawn", x.rank(), -1);
        check.due("7: two that meet", x.force(1, 1), true);
        check.due("7: no way has both", x.count(), 0);
        check.due("7: OUT after IN", x.force(0, 2), true);
        check.due("7: count without it", x.count(), 1);
        check.due("7: free", x.force(0, 0), true);
        check.due("7: free too", x.force(1, 0), true);
        check.due("7: all of them", x.count(), 2);
    }

    private void count() {
        long[] trees = {1, 4, 192, 100352, 557568000};
        long[] pairs = {0, 2, 0, 36, 0};
        long[] loops = {0, 1, 13, 213, 9349};
        long[] covers = {0, 1, 0, 18, 0};
        long[] paths = {0, 2, 12, 184, 8512};
        for (int n = 1; n <= 5; n++) {
            check.due("8: pairs " + n, new FrontierCounts(PAIRS, n, n).count(), pairs[n - 1]);
            check.due("8: loop " + n, new FrontierCounts(LOOP, n, n).count(), loops[n - 1]);
            check.due("8: tree " + n, new FrontierCounts(TREE, n, n).count(), trees[n - 1]);
            FrontierCounts path = new FrontierCounts(PATH, n, n);
            path.ends(0, n * n - 1);
            check.due("8: path " + n, path.count(), paths[n - 1]);
        }
        for (int n = 1; n <= 4; n++) {
            check.due("8: loops " + n, new FrontierCounts(LOOPS, n, n).count(), covers[n - 1]);
        }
        check.due("8: loops 5", new FrontierCounts(LOOPS, 5, 5).count(), 0);
        check.due("8: pairs 4 by 5", new FrontierCounts(PAIRS, 4, 5).count(), 95);
        check.due("8: pairs 5 by 4", new FrontierCounts(PAIRS, 5, 4).count(), 95);
        check.due("8: two loops side by side", new FrontierCounts(LOOPS, 4, 2).count(), 2);
        FrontierCounts path = new FrontierCounts(PATH, 3, 1);
        path.ends(0, 1);
        check.due("8: places may be left out", path.count(), 1);
        path.force(1, 1);
        check.due("8: no path goes past its end", path.count(), 0);
    }

    private void countOfSmallest() {
        check.due("8: a pair in one place", new FrontierCounts(PAIRS, 1, 1).count(), 0);
        check.due("8: a path in one place", new FrontierCounts(PATH, 1, 1).count(), 0);
        check.due("8: a loop in one place", new FrontierCounts(LOOP, 1, 1).count(), 0);
        check.due("8: a tree in one place", new FrontierCounts(TREE, 1, 1).count(), 1);
        check.due("8: loops in one place", new FrontierCounts(LOOPS, 1, 1).count(), 0);
        check.due("8: a pair in two", new FrontierCounts(PAIRS, 2, 1).count(), 1);
        check.due("8: a loop in two", new FrontierCounts(LOOP, 2, 1).count(), 0);
        check.due("8: loops in two", new FrontierCounts(LOOPS, 1, 2).count(), 0);
        FrontierCounts far = new FrontierCounts(TREE, 5, 5);
        for (int p = 0; p < 24; p++) {
            far.hole(p % 5, p / 5);
        }
        check.due("8: the last place alone", far.count(), 1);
        far.hole(0, 0);
        check.due("8: two places apart", far.count(), 0);
    }

    private void countWithoutPlaces() {
        long[] due = {1, 0, 0, 1, 1};
        for (int kind = 0; kind <= 4; kind++) {
            for (int side = 1; side <= 5; side++) {
                FrontierCounts x = new FrontierCounts(kind, side, 6 - side);
                x.ends(0, 1);
                for (int p = 0; p < side * (6 - side); p++) {
                    x.hole(p % side, p / side);
                }
                String name = "8: kind " + kind + ", " + side + " wide, without any places, ";
                check.due(name + "count", x.count(), due[kind]);
                check.due(name + "draw", x.draw(77), due[kind] == 1);
                check.due(name + "rank", x.rank(), due[kind] - 1);
                check.due(name + "edges", x.edges(), 0);
                check.due(name + "drawn", x.drawn(0), false);
            }
        }
    }

    private void digit() {
        FrontierCounts x = new FrontierCounts(TREE, 5, 5);
        int[] due = {0, 0, 0, 8, 6, 5, 7, 5, 5, -1, -1};
        for (int i = 0; i < due.length; i++) {
            check.due("9: digit(" + i + ")", x.digit(i), due[i]);
        }
        for (int wrong : new int[] {-1, -9, Integer.MIN_VALUE, 18, 19, 20, 64, Integer.MAX_VALUE}) {
            check.due("9: digit(" + wrong + ")", x.digit(wrong), -1);
        }
        FrontierCounts none = new FrontierCounts(PATH, 5, 5);
        check.due("9: 0 has a digit", none.digit(0), 0);
        check.due("9: 0 has one digit", none.digit(1), -1);
        check.due("9: 0 has none before", none.digit(-1), -1);
        x.force(0, 1);
        x.force(1, 1);
        long rest = x.count();
        for (int i = 0; rest > 0; i++) {
            check.due("9: told, digit(" + i + ")", x.digit(i), rest % 10);
            rest /= 10;
        }
    }

    private void draw() {
        FrontierCounts none = new FrontierCounts(PAIRS, 3, 3);
        check.due("10: no way to draw", none.draw(4), false);
        check.due("10: nothing drawn", none.rank(), -1);
        FrontierCounts x = new FrontierCounts(TREE, 5, 5);
        long[] seeds = {0, 1, -1, 99, 12345, Long.MAX_VALUE, Long.MIN_VALUE};
        for (long seed : seeds) {
            check.due("10: draw(" + seed + ")", x.draw(seed), true);
            long upper = (6364136223846793005L * seed + 1442695040888963407L) >>> 1;
            check.due("10: rank after draw(" + seed + ")", x.rank(), upper % 557568000L);
        }
    }

    /** The ways of each rank are told apart by the first edge that just one has: the lesser one does not have it. */
    private void drawInOrder() {
        for (int kind = 0; kind <= 4; kind++) {
            FrontierCounts x = new FrontierCounts(kind, kind == TREE ? 2 : 4, kind == TREE ? 3 : 4);
            x.ends(1, 4);
            int n = (int) x.count();
            String[] ways = new String[n];
            int found = 0;
            for (long seed = 0; seed < 20000 && found < n; seed++) {
                x.draw(seed);
                int at = (int) x.rank();
                found += ways[at] == null ? 1 : 0;
                ways[at] = way(x);
            }
            check.due("10: kind " + kind + ", all ways are drawn", found, n);
            for (int i = 1; i < found; i++) {
                check.due("10: kind " + kind + ", way " + i, ways[i - 1].compareTo(ways[i]) < 0, true);
            }
        }
    }

    private static String way(FrontierCounts x) {
        StringBuilder text = new StringBuilder();
        for (int e = 0; e < x.edges(); e++) {
            text.append(x.drawn(e) ? '1' : '0');
        }
        return text.toString();
    }

    private void drawn() {
        FrontierCounts x = new FrontierCounts(PAIRS, 2, 1);
        check.due("11: without one", x.drawn(0), false);
        check.due("11: draw", x.draw(3), true);
        check.due("11: drawn(0)", x.drawn(0), true);
        for (int wrong : new int[] {-1, 1, 2, 63, 64, 65, 128, Integer.MAX_VALUE, Integer.MIN_VALUE}) {
            check.due("11: drawn(" + wrong + ")", x.drawn(wrong), false);
        }
        x.force(0, 2);
        check.due("11: after force", x.drawn(0), false);
        check.due("11: none to draw", x.draw(3), false);
        check.due("11: still none", x.drawn(0), false);
        FrontierCounts told = new FrontierCounts(TREE, 5, 5);
        told.force(7, 1);
        told.force(20, 2);
        for (long seed = 0; seed < 50; seed++) {
            told.draw(seed);
            check.due("11: IN", told.drawn(7), true);
            check.due("11: OUT", told.drawn(20), false);
        }
    }

    private void rank() {
        FrontierCounts x = new FrontierCounts(LOOP, 5, 5);
        check.due("12: without one", x.rank(), -1);
        x.draw(-3);
        check.due("12: of the way drawn", x.rank(), 8934);
        x.count();
        x.digit(0);
        x.end(0, true);
        check.due("12: asking changes nothing", x.rank(), 8934);
        x.draw(-3);
        check.due("12: the same seed", x.rank(), 8934);
        x.force(0, 2);
        check.due("12: after force", x.rank(), -1);
    }

    private void wrongInputsDoNothing() {
        FrontierCounts x = new FrontierCounts(PATH, 5, 5);
        x.ends(0, 24);
        x.edge(12, 13, false);
        x.force(3, 1);
        long n = x.count();
        x.draw(6);
        String way = way(x);
        long rank = x.rank();
        for (int wrong : WRONG) {
            x.hole(wrong, wrong);
            x.edge(wrong, wrong, true);
            x.edge(0, wrong, false);
            x.ends(wrong, 1);
            x.force(wrong < 0 ? wrong : Math.max(39, wrong), 2);
            x.force(1, wrong);
            x.digit(wrong);
            x.end(wrong, true);
            x.drawn(wrong);
        }
        check.due("wrong inputs: edges", x.edges(), 39);
        check.due("wrong inputs: count", x.count(), n);
        check.due("wrong inputs: rank", x.rank(), rank);
        check.due("wrong inputs: way", way(x).equals(way), true);
    }
}

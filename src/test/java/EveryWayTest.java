import java.util.Arrays;
import java.util.Random;

/**
 * In grids with few edges every way, none left out: the sets of edges are tried one by one, in ORDER, against the
 * words of the document, and the way of each rank is drawn by a seed that is reckoned back from that rank.
 */
public final class EveryWayTest {
    private static final long FACTOR = 6364136223846793005L;
    private static final long TERM = 1442695040888963407L;
    private static final int KINDS = 5;
    private static final int LARGE_GRIDS = 5000;
    private static final int MOST_EDGES = 16;
    private final Check check = new Check();
    private final long unfactor = inverse(FACTOR);

    public static void main(String[] args) {
        EveryWayTest test = new EveryWayTest();
        test.everyHoles();
        test.everyEnds();
        test.everyEdgeGone();
        test.everyEdgeTold();
        test.longGrids();
        test.largeGrids();
        test.check.end();
    }

    /** Every set of holes of every grid up to 3 by 3; paths from the first place to the last one. */
    private void everyHoles() {
        for (int kind = 0; kind < KINDS; kind++) {
            for (int width = 1; width <= 3; width++) {
                for (int height = 1; height <= 3; height++) {
                    for (int holes = 0; holes < 1 << (width * height); holes++) {
                        every(new Case(kind, width, height, holes, 0, width * height - 1));
                    }
                }
            }
        }
    }

    private void everyEnds() {
        for (int a = 0; a < 9; a++) {
            for (int b = 0; b < 9; b++) {
                every(new Case(1, 3, 3, 0, a, b));
                every(new Case(1, 3, 3, 1 << 1, a, b));
                every(new Case(1, 3, 3, 1 << 4, a, b));
            }
        }
    }

    private void everyEdgeGone() {
        for (int kind = 0; kind < KINDS; kind++) {
            for (int gone = 0; gone < 12; gone++) {
                Case one = new Case(kind, 3, 3, 0, 0, 8);
                one.take(gone);
                every(one);
                for (int second = 0; second < 11; second++) {
                    Case two = new Case(kind, 3, 3, 0, 0, 8);
                    two.take(gone);
                    two.take(second);
                    every(two);
                }
            }
        }
    }

    private void everyEdgeTold() {
        for (int kind = 0; kind < KINDS; kind++) {
            for (int told = 0; told < 10 * 9; told++) {
                Case one = new Case(kind, 4, 2, 0, 0, 7);
                one.tell(told / 9, 1 + told % 3 % 2);
                one.tell(told % 9, 1 + told / 3 % 2);
                every(one);
            }
        }
    }

    private void longGrids() {
        for (int kind = 0; kind < KINDS; kind++) {
            every(new Case(kind, 5, 1, 0, 0, 4));
            every(new Case(kind, 1, 5, 0, 4, 0));
            every(new Case(kind, 5, 2, 0, 0, 9));
            every(new Case(kind, 2, 5, 0, 1, 8));
            every(new Case(kind, 4, 3, 0, 0, 11));
            every(new Case(kind, 3, 4, 0, 10, 1));
            every(new Case(kind, 5, 3, 1 << 2 | 1 << 12, 0, 14));
            every(new Case(kind, 3, 5, 1 << 4 | 1 << 10, 14, 0));
        }
    }

    /** Grids with a side of 5 or 4 that holes have left few edges. */
    private void largeGrids() {
        Random random = new Random(20261116);
        int[] withWays = new int[KINDS];
        for (int tries = 0; tries < LARGE_GRIDS; tries++) {
            int kind = tries % KINDS;
            int width = 4 + random.nextInt(2);
            int height = 4 + random.nextInt(2);
            int places = width * height;
            int holes = random.nextInt(1 << places) & (random.nextBoolean() ? random.nextInt() : -1);
            Case c = new Case(kind, width, height, holes, random.nextInt(places), random.nextInt(places));
            if (c.edges <= MOST_EDGES) {
                withWays[kind] += every(c) > 0 ? 1 : 0;
            }
        }
        for (int kind = 0; kind < KINDS; kind++) {
            check.due("large grids of kind " + kind + ", some with ways", withWays[kind] > 0, true);
        }
        System.out.println("large grids with ways, by kind: " + Arrays.toString(withWays));
    }

    private long every(Case c) {
        FrontierCounts x = c.object;
        long ways = 0;
        for (int subset = 0; subset < 1 << c.edges; subset++) {
            // Edge 0 is the highest bit, so that subsets are gone through in ORDER.
            if (c.isWay(subset)) {
                check.due(c.name + ": draw the way of rank " + ways, x.draw(seedFor(ways)), true);
                check.due(c.name + ": rank()", x.rank(), ways);
                check.due(c.name + ": the way of rank " + ways, drawnSubset(x, c.edges), subset);
                ways++;
            }
        }
        check.due(c.name + ": count()", x.count(), ways);
        check.due(c.name + ": draw one more", x.draw(seedFor(ways)), ways > 0);
        check.due(c.name + ": rank() of one more", x.rank(), ways > 0 ? 0 : -1);
        return ways;
    }

    private static int drawnSubset(FrontierCounts x, int edges) {
        int subset = 0;
        for (int e = 0; e < edges; e++) {
            subset = subset << 1 | (x.drawn(e) ? 1 : 0);
        }
        return subset;
    }

    /** The seed whose X has the rank for its upper 63 bits. */
    private long seedFor(long rank) {
        return (2 * rank - TERM) * unfactor;
    }

    /** By which an odd number is 1 in 64 bits: each step makes twice as many bits right. */
    private static long inverse(long odd) {
        long found = odd;
        for (int step = 0; step < 6; step++) {
            found *= 2 - odd * found;
        }
        return found;
    }

    /** An object in some state, and its edges as the object itself tells them. */
    private static final class Case {
        private final int kind;
        private final int places;
        private final int holes;
        private final int endA;
        private final int endB;
        private final FrontierCounts object;
        private String name;
        private int edges;
        private int in;
        private int out;
        private final int[] nearEnd = new int[40];
        private final int[] farEnd = new int[40];

        private Case(int kind, int width, int height, int holes, int a, int b) {
            this.kind = kind;
            this.holes = holes;
            places = width * height;
            endA = a;
            endB = b;
            name = "(" + kind + ", " + width + ", " + height + "), holes " + holes + ", ends " + a + " " + b;
            object = new FrontierCounts(kind, width, height);
            for (int place = 0; place < places; place++) {
                if (isHole(place)) {
                    object.hole(place % width, place / width);
                }
            }
            object.ends(a, b);
            readEdges();
        }

        private void take(int edge) {
            name += ", without " + object.end(edge, false) + "-" + object.end(edge, true);
            object.edge(object.end(edge, false), object.end(edge, true), false);
            readEdges();
        }

        private void tell(int edge, int how) {
            name += ", " + edge + (how == 1 ? " in" : " out");
            object.force(edge, how);
            int bit = 1 << (edges - 1 - edge);
            in = how == 1 ? in | bit : in & ~bit;
            out = how == 2 ? out | bit : out & ~bit;
        }

        private void readEdges() {
            edges = object.edges();
            for (int e = 0; e < edges; e++) {
                nearEnd[e] = object.end(e, false);
                farEnd[e] = object.end(e, true);
            }
        }

        private boolean isHole(int place) {
            return (holes >> place & 1) != 0;
        }

        private boolean isWay(int subset) {
            if ((subset & in) != in || (subset & out) != 0) {
                return false;
            }
            switch (kind) {
                case 0:
                    return allHave(subset, 1);
                case 1:
                    return isPath(subset);
                case 2:
                    return isLoop(subset);
                case 3:
                    return isTree(subset);
                default:
                    return allHave(subset, 2);
            }
        }

        private boolean has(int subset, int edge) {
            return (subset >> (edges - 1 - edge) & 1) != 0;
        }

        private int degree(int subset, int place) {
            int degree = 0;
            for (int e = 0; e < edges; e++) {
                degree += has(subset, e) && (nearEnd[e] == place || farEnd[e] == place) ? 1 : 0;
            }
            return degree;
        }

        private boolean allHave(int subset, int due) {
            for (int place = 0; place < places; place++) {
                if (!isHole(place) && degree(subset, place) != due) {
                    return false;
                }
            }
            return true;
        }

        /** The places that edges of the subset lead to from one place, that place among them. */
        private int reached(int subset, int from) {
            int reached = 1 << from;
            int before = 0;
            while (reached != before) {
                before = reached;
                for (int e = 0; e < edges; e++) {
                    int both = 1 << nearEnd[e] | 1 << farEnd[e];
                    reached |= has(subset, e) && (reached & both) != 0 ? both : 0;
                }
            }
            return reached;
        }

        /** One piece with so many edges over its places: -1 for a path or a tree, 0 for a loop. */
        private boolean isOnePiece(int subset, int from, int edgesOverPlaces) {
            int piece = reached(subset, from);
            for (int e = 0; e < edges; e++) {
                if (has(subset, e) && (piece >> nearEnd[e] & 1) == 0) {
                    return false;
                }
            }
            return Integer.bitCount(subset) - Integer.bitCount(piece) == edgesOverPlaces;
        }

        private boolean isPath(int subset) {
            if (endA == endB || isHole(endA) || isHole(endB) || (reached(subset, endA) >> endB & 1) == 0) {
                return false;
            }
            for (int place = 0; place < places; place++) {
                int most = place == endA || place == endB ? 1 : 2;
                if (degree(subset, place) > most) {
                    return false;
                }
            }
            return isOnePiece(subset, endA, -1);
        }

        private boolean isLoop(int subset) {
            if (subset == 0) {
                return false;
            }
            for (int place = 0; place < places; place++) {
                int degree = degree(subset, place);
                if (degree != 0 && degree != 2) {
                    return false;
                }
            }
            int first = edges - 1 - (31 - Integer.numberOfLeadingZeros(subset));
            return isOnePiece(subset, nearEnd[first], 0);
        }

        private boolean isTree(int subset) {
            int all = ((1 << places) - 1) & ~holes;
            if (all == 0) {
                return subset == 0;
            }
            int first = Integer.numberOfTrailingZeros(all);
            return reached(subset, first) == all && isOnePiece(subset, first, -1);
        }
    }
}

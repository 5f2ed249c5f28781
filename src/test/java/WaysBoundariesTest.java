/** The boundary cases that promises 8 to 12 and the terms of ways and ORDER name, each in a test of its own. */
public final class WaysBoundariesTest extends Boundaries {
    private static final int MOST_CALLS = 512;

    public static void main(String[] args) throws ReflectiveOperationException {
        new WaysBoundariesTest().runAll();
    }

    // ---- Promise 8: count

    void promise08_count_pairsLeaveNoPlaceOut() {
        due("one place", new FrontierCounts(PAIRS, 1, 1).count(), 0);
        due("two places", new FrontierCounts(PAIRS, 2, 1).count(), 1);
        due("three places", new FrontierCounts(PAIRS, 3, 1).count(), 0);
        due("25 places", new FrontierCounts(PAIRS, 5, 5).count(), 0);
    }

    void promise08_count_pairsLeaveHolesOut() {
        FrontierCounts x = new FrontierCounts(PAIRS, 3, 1);
        x.hole(2, 0);
        due("two places and a hole", x.count(), 1);
        x.hole(2, 0);
        x.hole(1, 0);
        due("a hole between two places", x.count(), 0);
        FrontierCounts large = new FrontierCounts(PAIRS, 5, 5);
        large.hole(2, 2);
        due("a hole in the middle", large.count(), 196);
    }

    void promise08_count_pathNeedsEnds() {
        FrontierCounts x = new FrontierCounts(PATH, 5, 5);
        due("no ends told", x.count(), 0);
        x.ends(0, 0);
        due("ends refused", x.count(), 0);
        x.ends(0, 1);
        due("ends told", x.count(), 4112);
    }

    void promise08_count_pathNeedsEndsThatAreNoHoles() {
        FrontierCounts x = path(3, 3, 0, 8);
        x.hole(0, 0);
        due("the first one is a hole", x.count(), 0);
        x.hole(2, 2);
        due("both are", x.count(), 0);
        x.hole(0, 0);
        due("the second one is a hole", x.count(), 0);
        x.hole(2, 2);
        due("none is", x.count(), 12);
    }

    void promise08_count_pathMayLeavePlacesOut() {
        due("the rest of the row", path(5, 1, 1, 2).count(), 1);
        due("from side to side", path(2, 2, 0, 1).count(), 2);
        due("from corner to corner", path(2, 2, 0, 3).count(), 2);
    }

    void promise08_count_pathStopsAtItsEnds() {
        FrontierCounts x = path(4, 1, 1, 2);
        x.force(0, IN);
        due("an edge before the first one", x.count(), 0);
        x.force(0, FREE);
        x.force(2, IN);
        due("an edge behind the second one", x.count(), 0);
        FrontierCounts through = path(3, 1, 0, 1);
        due("as far as the middle", through.count(), 1);
        FrontierCounts square = path(2, 2, 0, 1);
        square.force(0, IN);
        square.force(1, IN);
        due("two edges at one end", square.count(), 0);
    }

    void promise08_count_pathIsOnePieceWithoutALoop() {
        FrontierCounts x = path(5, 2, 0, 5);
        x.force(x.edges() - 1, IN);
        x.force(0, OUT);
        due("an edge apart from it", x.count(), 0);
        FrontierCounts ring = path(4, 4, 0, 1);
        ring.force(0, IN);
        due("the edge between its ends, with nothing else", ring.count(), 1);
    }

    void promise08_count_pathBetweenPlacesThatNothingJoins() {
        FrontierCounts x = path(3, 1, 0, 2);
        x.hole(1, 0);
        due("a hole between them", x.count(), 0);
        x.hole(1, 0);
        x.edge(1, 2, false);
        due("an edge taken away", x.count(), 0);
        due("draw(0)", x.draw(0), false);
    }

    void promise08_count_loopHasAtLeastOneEdge() {
        due("one place", new FrontierCounts(LOOP, 1, 1).count(), 0);
        due("two places", new FrontierCounts(LOOP, 2, 1).count(), 0);
        due("a row", new FrontierCounts(LOOP, 5, 1).count(), 0);
        due("a column", new FrontierCounts(LOOP, 1, 5).count(), 0);
        FrontierCounts x = new FrontierCounts(LOOP, 2, 2);
        x.force(0, OUT);
        due("the only one is out", x.count(), 0);
    }

    void promise08_count_loopIsJustOne() {
        FrontierCounts x = new FrontierCounts(LOOP, 5, 2);
        due("5 by 2", x.count(), 10);
        x.force(0, IN);
        x.force(12, IN);
        due("at both sides, so one around all", x.count(), 1);
        x.force(4, OUT);
        due("nor two apart", x.count(), 0);
    }

    void promise08_count_loopComesToNoPlaceTwice() {
        FrontierCounts x = new FrontierCounts(LOOP, 3, 3);
        x.hole(2, 0);
        x.hole(0, 2);
        due("two squares that share a place", x.count(), 2);
    }

    void promise08_count_treeJoinsAllPlaces() {
        due("one place, no edge", new FrontierCounts(TREE, 1, 1).count(), 1);
        due("a row", new FrontierCounts(TREE, 5, 1).count(), 1);
        due("a column", new FrontierCounts(TREE, 1, 5).count(), 1);
        FrontierCounts x = new FrontierCounts(TREE, 3, 1);
        x.hole(1, 0);
        due("two places apart", x.count(), 0);
        x.hole(0, 0);
        due("the last one alone", x.count(), 1);
    }

    void promise08_count_treeOfPlacesApart() {
        FrontierCounts x = new FrontierCounts(TREE, 5, 5);
        for (int at = 0; at < 5; at++) {
            x.hole(at, 2);
        }
        due("two rows above and two below", x.count(), 0);
        x.hole(2, 2);
        due("with a bridge", x.count(), 209L * 209L);
        due("it is taken away", x.edge(7, 12, false), true);
        due("without it", x.count(), 0);
    }

    void promise08_count_treeHasNoLoop() {
        FrontierCounts x = new FrontierCounts(TREE, 3, 3);
        x.force(0, IN);
        x.force(1, IN);
        x.force(3, IN);
        due("three edges of a square", x.count() > 0, true);
        x.force(5, IN);
        due("all four", x.count(), 0);
    }

    void promise08_count_loopsGoThroughAllPlaces() {
        due("one place", new FrontierCounts(LOOPS, 1, 1).count(), 0);
        due("two places", new FrontierCounts(LOOPS, 2, 1).count(), 0);
        due("a column", new FrontierCounts(LOOPS, 1, 5).count(), 0);
        due("nine places", new FrontierCounts(LOOPS, 3, 3).count(), 0);
        FrontierCounts x = new FrontierCounts(LOOPS, 3, 3);
        x.hole(1, 1);
        due("the ring", x.count(), 1);
    }

    void promise08_count_loopsMayBeMany() {
        FrontierCounts x = new FrontierCounts(LOOPS, 5, 2);
        x.hole(2, 0);
        x.hole(2, 1);
        due("two squares apart", x.count(), 1);
        due("two side by side, or one", new FrontierCounts(LOOPS, 4, 2).count(), 2);
    }

    void promise08_count_withoutPlacesTheEmptySetIsAWayOfThreeKinds() {
        long[] want = {1, 0, 0, 1, 1};
        for (int kind = 0; kind <= 4; kind++) {
            due("1 by 1, kind " + kind, withoutPlaces(kind, 1, 1).count(), want[kind]);
            due("5 by 5, kind " + kind, withoutPlaces(kind, 5, 5).count(), want[kind]);
            due("1 by 5, kind " + kind, withoutPlaces(kind, 1, 5).count(), want[kind]);
        }
    }

    void promise08_count_withoutEdgesThereIsNoWay() {
        for (int kind = 0; kind <= 4; kind++) {
            FrontierCounts x = withoutEdges(kind, 5, 5);
            x.ends(0, 1);
            due("kind " + kind, x.count(), 0);
        }
    }

    void promise08_count_inEdgesThatNoWayHasTogether() {
        long[] want = {0, 0, 1, 2, 1};
        for (int kind = 0; kind <= 4; kind++) {
            FrontierCounts x = new FrontierCounts(kind, 2, 2);
            x.ends(0, 3);
            x.force(0, IN);
            x.force(1, IN);
            due("both edges of place 0, kind " + kind, x.count(), want[kind]);
        }
    }

    void promise08_count_allEdgesOut() {
        for (int kind = 0; kind <= 4; kind++) {
            FrontierCounts x = new FrontierCounts(kind, 5, 5);
            x.ends(0, 24);
            for (int e = 0; e < 40; e++) {
                x.force(e, OUT);
            }
            due("kind " + kind, x.count(), 0);
        }
    }

    void promise08_count_theLargestCounts() {
        due("pairs", new FrontierCounts(PAIRS, 5, 4).count(), 95);
        due("paths", path(5, 5, 0, 24).count(), 8512);
        due("loop", new FrontierCounts(LOOP, 5, 5).count(), 9349);
        due("tree", new FrontierCounts(TREE, 5, 5).count(), 557568000);
        due("loops", new FrontierCounts(LOOPS, 5, 4).count(), 54);
    }

    void promise08_count_askingChangesNothing() {
        FrontierCounts x = busy();
        String before = state(x);
        for (int times = 0; times < 3; times++) {
            due("count()", x.count(), BUSY_WAYS);
        }
        dueState("count()", x, before);
    }

    void promise08_count_holdsUpToCall512() {
        FrontierCounts x = path(5, 5, 0, 24);
        for (int call = 1; call < MOST_CALLS - 4; call += 2) {
            x.hole(2, 2);
            due("call " + call, x.count() < 8512, call % 4 == 1);
        }
        due("draw(12345)", x.draw(12345), true);
        due("rank()", x.rank(), 7210);
        due("count()", x.count(), 8512);
    }

    // ---- Promise 9: digit

    void promise09_digit_zeroHasOneDigit() {
        FrontierCounts x = new FrontierCounts(PATH, 2, 2);
        due("digit(0)", x.digit(0), 0);
        due("digit(1)", x.digit(1), -1);
        due("digit(-1)", x.digit(-1), -1);
        due("digit(18)", x.digit(18), -1);
    }

    void promise09_digit_oneHasOneDigit() {
        FrontierCounts x = new FrontierCounts(LOOP, 2, 2);
        due("digit(0)", x.digit(0), 1);
        due("digit(1)", x.digit(1), -1);
    }

    void promise09_digit_oneDigitAndTwo() {
        FrontierCounts ten = busy();
        due("10, digit(0)", ten.digit(0), 0);
        due("10, digit(1)", ten.digit(1), 1);
        due("10, digit(2)", ten.digit(2), -1);
        FrontierCounts eight = path(3, 3, 0, 4);
        due("8, digit(0)", eight.digit(0), 8);
        due("8, digit(1)", eight.digit(1), -1);
    }

    void promise09_digit_lowestComesFirst() {
        FrontierCounts x = new FrontierCounts(TREE, 3, 3);
        due("192, digit(0)", x.digit(0), 2);
        due("192, digit(1)", x.digit(1), 9);
        due("192, digit(2)", x.digit(2), 1);
        due("192, digit(3)", x.digit(3), -1);
    }

    void promise09_digit_digitsThatAreZero() {
        digits(new FrontierCounts(TREE, 4, 4), "100352");
        digits(new FrontierCounts(TREE, 5, 5), "557568000");
    }

    void promise09_digit_beyondTheLast() {
        FrontierCounts x = new FrontierCounts(TREE, 5, 5);
        for (int none : new int[] {9, 10, 17, 18, 19, 20, 31, 32, 63, 64, 1000, MOST - 1, MOST}) {
            due("digit(" + none + ")", x.digit(none), -1);
        }
    }

    void promise09_digit_belowTheLowest() {
        FrontierCounts x = new FrontierCounts(TREE, 5, 5);
        for (int none : new int[] {-1, -2, -9, -32, -64, LEAST + 1, LEAST}) {
            due("digit(" + none + ")", x.digit(none), -1);
        }
    }

    void promise09_digit_isOfTheWaysAsTold() {
        FrontierCounts x = new FrontierCounts(LOOP, 5, 5);
        digits(x, "9349");
        x.force(0, IN);
        digits(x, "4111");
        x.force(0, OUT);
        digits(x, "5238");
    }

    void promise09_digit_askingChangesNothing() {
        FrontierCounts x = busy();
        String before = state(x);
        x.digit(0);
        x.digit(-1);
        x.digit(99);
        dueState("digit", x, before);
    }

    private void digits(FrontierCounts x, String number) {
        for (int i = 0; i < number.length(); i++) {
            int want = number.charAt(number.length() - 1 - i) - '0';
            due(number + ", digit(" + i + ")", x.digit(i), want);
        }
        due(number + ", digit(" + number.length() + ")", x.digit(number.length()), -1);
    }

    // ---- Promise 10: draw

    void promise10_draw_noWayToDraw() {
        noneToDraw("pairs of nine", new FrontierCounts(PAIRS, 3, 3));
        noneToDraw("no ends", new FrontierCounts(PATH, 5, 5));
        noneToDraw("a loop in a row", new FrontierCounts(LOOP, 5, 1));
        noneToDraw("a tree without edges", withoutEdges(TREE, 5, 5));
        noneToDraw("loops in one place", new FrontierCounts(LOOPS, 1, 1));
        noneToDraw("a path without places", withoutPlaces(PATH, 5, 5));
        noneToDraw("a loop without places", withoutPlaces(LOOP, 5, 5));
    }

    void promise10_draw_noWayToDrawAfterOneWasDrawn() {
        FrontierCounts x = new FrontierCounts(LOOP, 2, 2);
        due("draw(0)", x.draw(0), true);
        x.force(0, OUT);
        noneToDraw("the only loop is out", x);
        x.force(0, FREE);
        due("draw(0), it is free again", x.draw(0), true);
        due("rank()", x.rank(), 0);
    }

    void promise10_draw_theEmptySetMayBeDrawn() {
        for (int kind : new int[] {PAIRS, TREE, LOOPS}) {
            FrontierCounts x = withoutPlaces(kind, 3, 3);
            due("draw(0), kind " + kind, x.draw(0), true);
            due("rank(), kind " + kind, x.rank(), 0);
            due("drawn(0), kind " + kind, x.drawn(0), false);
        }
        FrontierCounts one = new FrontierCounts(TREE, 1, 1);
        due("one place", one.draw(5), true);
        due("one place, rank()", one.rank(), 0);
    }

    void promise10_draw_theOnlyWay() {
        FrontierCounts x = new FrontierCounts(PAIRS, 4, 1);
        for (long seed : new long[] {0, 1, -1, 77, Long.MIN_VALUE, Long.MAX_VALUE}) {
            due("draw(" + seed + ")", x.draw(seed), true);
            due("rank() by " + seed, x.rank(), 0);
            due("way " + way(x) + " by " + seed, way(x).equals("101"), true);
        }
    }

    /** Ranks by hand: for -1 and the least seed bit 63 of X is set, so a signed remainder would be another one. */
    void promise10_draw_seedsAtBothEndsOfTheirRange() {
        long[] seeds = {0, 1, -1, Long.MAX_VALUE, Long.MIN_VALUE};
        long[] ofFour = {3, 2, 1, 1, 3};
        long[] ofPairs = {3, 2, 13, 9, 7};
        long[] ofPaths = {4007, 510, 8017, 7761, 4263};
        long[] ofTrees = {165953703, 36102206, 87925009, 191865105, 62013607};
        for (int i = 0; i < seeds.length; i++) {
            rankBy(seeds[i], new FrontierCounts(TREE, 2, 2), ofFour[i]);
            rankBy(seeds[i], new FrontierCounts(PAIRS, 4, 4), ofPairs[i]);
            rankBy(seeds[i], path(5, 5, 0, 24), ofPaths[i]);
            rankBy(seeds[i], new FrontierCounts(TREE, 5, 5), ofTrees[i]);
        }
    }

    void promise10_draw_firstAndLastInOrder() {
        FrontierCounts x = new FrontierCounts(TREE, 2, 2);
        long[] seeds = {2, 4, 1, 0};
        String[] ways = {"0111", "1011", "1101", "1110"};
        for (int rank = 0; rank < 4; rank++) {
            x.draw(seeds[rank]);
            due("rank() by " + seeds[rank], x.rank(), rank);
            due("way " + way(x) + " of rank " + rank, way(x).equals(ways[rank]), true);
        }
    }

    void promise10_draw_orderIsOfTheWaysThatAreLeft() {
        FrontierCounts x = new FrontierCounts(PAIRS, 3, 2);
        due("ways", x.count(), 3);
        x.force(0, OUT);
        due("ways without edge 0", x.count(), 2);
        x.draw(0);
        due("way " + way(x), way(x).equals("0110001"), true);
        x.edge(0, 1, false);
        x.draw(0);
        due("way " + way(x) + ", taken away", way(x).equals("110001"), true);
    }

    void promise10_draw_drawnAnewReplacesTheWay() {
        FrontierCounts x = new FrontierCounts(TREE, 2, 2);
        x.draw(2);
        due("rank()", x.rank(), 0);
        x.draw(0);
        due("rank() then", x.rank(), 3);
        due("way " + way(x), way(x).equals("1110"), true);
        x.draw(2);
        due("way " + way(x) + " again", way(x).equals("0111"), true);
    }

    void promise10_draw_nothingElseChanges() {
        FrontierCounts x = busy();
        String before = state(x);
        due("draw(9)", x.draw(9), true);
        due("draw(1)", x.draw(1), true);
        dueState("the same seed as at first", x, before);
    }

    void promise10_draw_hasWhatIsInAndNotWhatIsOut() {
        FrontierCounts x = busy();
        for (long seed = 0; seed < 40; seed++) {
            due("draw(" + seed + ")", x.draw(seed), true);
            due("IN by " + seed, x.drawn(BUSY_IN), true);
            due("OUT by " + seed, x.drawn(BUSY_OUT), false);
        }
    }

    private void noneToDraw(String name, FrontierCounts x) {
        for (long seed : new long[] {0, -1, Long.MIN_VALUE, Long.MAX_VALUE}) {
            due(name + ": draw(" + seed + ")", x.draw(seed), false);
            due(name + ": rank()", x.rank(), -1);
            due(name + ": edges drawn", way(x).indexOf('1'), -1);
        }
    }

    private void rankBy(long seed, FrontierCounts x, long want) {
        due("draw(" + seed + ")", x.draw(seed), true);
        due("rank() by " + seed + " of " + x.count(), x.rank(), want);
    }

    // ---- Promise 11: drawn

    void promise11_drawn_withoutAWay() {
        FrontierCounts x = new FrontierCounts(PAIRS, 5, 5);
        for (int e : new int[] {LEAST, -1, 0, 1, 39, 40, MOST}) {
            due("drawn(" + e + ")", x.drawn(e), false);
        }
    }

    void promise11_drawn_noSuchEdge() {
        FrontierCounts x = path(2, 1, 0, 1);
        x.draw(0);
        due("drawn(0)", x.drawn(0), true);
        for (int none : new int[] {LEAST, -64, -63, -2, -1, 1, 2, 3, 4, 5, 31, 32, 63, 64, 65, 128, MOST}) {
            due("drawn(" + none + ")", x.drawn(none), false);
        }
    }

    void promise11_drawn_beyondTheLastOfForty() {
        FrontierCounts x = new FrontierCounts(TREE, 5, 5);
        x.force(39, IN);
        x.force(0, IN);
        x.draw(0);
        due("drawn(0)", x.drawn(0), true);
        due("drawn(39)", x.drawn(39), true);
        for (int none : new int[] {-1, 40, 41, 49, 50, 51, 63, 64, 103}) {
            due("drawn(" + none + ")", x.drawn(none), false);
        }
    }

    void promise11_drawn_holeMakesAWayBeNone() {
        forgotten("hole(1, 1)", x -> x.hole(1, 1));
        forgotten("hole(3, 0)", x -> x.hole(3, 0));
    }

    void promise11_drawn_edgeMakesAWayBeNone() {
        forgotten("edge(0, 1, false)", x -> x.edge(0, 1, false));
        forgotten("edge(5, 6, true)", x -> x.edge(5, 6, true));
    }

    void promise11_drawn_endsMakeAWayBeNone() {
        forgotten("ends(0, 15)", x -> x.ends(0, 15));
        forgotten("ends(1, 2)", x -> x.ends(1, 2));
    }

    void promise11_drawn_forceMakesAWayBeNone() {
        forgotten("IN as before", x -> x.force(BUSY_IN, IN));
        forgotten("free as before", x -> x.force(0, FREE));
        forgotten("OUT", x -> x.force(0, OUT));
    }

    void promise11_drawn_whatKeepsAWay() {
        FrontierCounts x = busy();
        String before = state(x);
        x.edges();
        x.end(0, true);
        x.count();
        x.digit(0);
        x.drawn(0);
        x.rank();
        x.hole(-1, 0);
        x.edge(0, 1, true);
        x.ends(1, 1);
        x.force(0, 3);
        dueState("questions and refused calls", x, before);
    }

    void promise11_drawn_waysAreOfTheKind() {
        FrontierCounts x = path(5, 5, 0, 24);
        x.draw(12345);
        int[] degree = new int[25];
        for (int e = 0; e < 40; e++) {
            degree[x.end(e, false)] += x.drawn(e) ? 1 : 0;
            degree[x.end(e, true)] += x.drawn(e) ? 1 : 0;
        }
        for (int place = 0; place < 25; place++) {
            boolean isEnd = place == 0 || place == 24;
            due("degree of place " + place, degree[place] == 1, isEnd);
            due("degree of place " + place + " is 0, 1 or 2", degree[place] <= 2, true);
        }
    }

    // ---- Promise 12: rank

    void promise12_rank_withoutAWay() {
        for (int kind = 0; kind <= 4; kind++) {
            due("new, kind " + kind, new FrontierCounts(kind, 5, 5).rank(), -1);
        }
        FrontierCounts none = new FrontierCounts(PATH, 5, 5);
        none.draw(0);
        due("none to draw", none.rank(), -1);
    }

    void promise12_rank_ofTheLeastWayIsZero() {
        FrontierCounts x = new FrontierCounts(LOOP, 3, 3);
        x.draw(19);
        due("rank()", x.rank(), 0);
        due("way " + way(x) + ", the square at the end", way(x).equals("000000011101"), true);
    }

    void promise12_rank_ofTheGreatestWayIsOneLessThanTheCount() {
        FrontierCounts x = new FrontierCounts(LOOP, 3, 3);
        x.draw(6);
        due("rank()", x.rank(), x.count() - 1);
        due("way " + way(x) + ", with the first edges", way(x).equals("111011010000"), true);
    }

    void promise12_rank_isAmongTheWaysAsTold() {
        FrontierCounts x = new FrontierCounts(TREE, 2, 2);
        x.force(0, IN);
        x.draw(0);
        due("rank() of three", x.rank(), 0);
        due("way " + way(x), way(x).equals("1011"), true);
    }

    void promise12_rank_isAnsweredAgainAndAgain() {
        FrontierCounts x = new FrontierCounts(LOOP, 5, 5);
        x.draw(-3);
        for (int times = 0; times < 3; times++) {
            due("rank()", x.rank(), 8934);
        }
    }

    private interface Call {
        boolean on(FrontierCounts x);
    }

    private void forgotten(String name, Call call) {
        FrontierCounts x = busy();
        due(name + ": a way is drawn before", x.rank(), 6);
        due(name, call.on(x), true);
        due(name + ": rank()", x.rank(), -1);
        due(name + ": edges drawn", way(x).indexOf('1'), -1);
    }
}

/** The boundary cases that promises 1 to 7 and the terms of places and edges name, each in a test of its own. */
public final class GridBoundariesTest extends Boundaries {
    public static void main(String[] args) throws ReflectiveOperationException {
        new GridBoundariesTest().runAll();
    }

    // ---- Promise 1: a new object

    void promise01_newObject_kindBelowTheLeastIsPairs() {
        for (int kind : new int[] {LEAST, -5, -1, 0}) {
            due("pairs by kind " + kind, new FrontierCounts(kind, 4, 4).count(), 36);
        }
    }

    void promise01_newObject_kindAboveTheMostIsLoops() {
        for (int kind : new int[] {MOST, 8, 5, 4}) {
            due("loops by kind " + kind, new FrontierCounts(kind, 4, 4).count(), 18);
        }
    }

    void promise01_newObject_widthBelowTheLeastIsOne() {
        for (int width : new int[] {LEAST, -3, -1, 0, 1}) {
            FrontierCounts x = new FrontierCounts(TREE, width, 3);
            due("edges, width " + width, x.edges(), 2);
            due("hole(1, 0), width " + width, x.hole(1, 0), false);
            due("hole(0, 2), width " + width, x.hole(0, 2), true);
        }
    }

    void promise01_newObject_widthAboveTheMostIsFive() {
        for (int width : new int[] {5, 6, 64, MOST}) {
            FrontierCounts x = new FrontierCounts(TREE, width, 2);
            due("edges, width " + width, x.edges(), 13);
            due("hole(5, 0), width " + width, x.hole(5, 0), false);
            due("hole(4, 1), width " + width, x.hole(4, 1), true);
        }
    }

    void promise01_newObject_heightBelowTheLeastIsOne() {
        for (int height : new int[] {LEAST, -3, -1, 0, 1}) {
            FrontierCounts x = new FrontierCounts(TREE, 3, height);
            due("edges, height " + height, x.edges(), 2);
            due("hole(0, 1), height " + height, x.hole(0, 1), false);
            due("hole(2, 0), height " + height, x.hole(2, 0), true);
        }
    }

    void promise01_newObject_heightAboveTheMostIsFive() {
        for (int height : new int[] {5, 6, 64, MOST}) {
            FrontierCounts x = new FrontierCounts(TREE, 2, height);
            due("edges, height " + height, x.edges(), 13);
            due("hole(0, 5), height " + height, x.hole(0, 5), false);
            due("hole(1, 4), height " + height, x.hole(1, 4), true);
        }
    }

    void promise01_newObject_widthAndHeightAreNotMixedUp() {
        FrontierCounts wide = new FrontierCounts(LOOP, 3, 2);
        due("the last place to the right", wide.hole(2, 1), true);
        due("too far down", wide.hole(1, 2), false);
        FrontierCounts high = new FrontierCounts(LOOP, 2, 3);
        due("the last place down", high.hole(1, 2), true);
        due("too far to the right", high.hole(2, 1), false);
    }

    void promise01_newObject_allEdgesAreThere() {
        for (int width = 1; width <= 5; width++) {
            for (int height = 1; height <= 5; height++) {
                int all = (width - 1) * height + width * (height - 1);
                due(width + " by " + height, new FrontierCounts(TREE, width, height).edges(), all);
            }
        }
    }

    void promise01_newObject_noneIsToldInOrOut() {
        due("trees", new FrontierCounts(TREE, 3, 3).count(), 192);
    }

    void promise01_newObject_noEndsAreTold() {
        FrontierCounts x = new FrontierCounts(PATH, 2, 1);
        due("count()", x.count(), 0);
        due("draw(0)", x.draw(0), false);
    }

    void promise01_newObject_nothingIsDrawn() {
        for (int kind = 0; kind <= 4; kind++) {
            FrontierCounts x = new FrontierCounts(kind, 2, 2);
            due("rank(), kind " + kind, x.rank(), -1);
            due("edges drawn, kind " + kind, way(x).indexOf('1'), -1);
        }
    }

    void promise01_newObject_objectsKnowNothingOfEachOther() {
        FrontierCounts x = busy();
        String before = state(x);
        FrontierCounts other = new FrontierCounts(PATH, 4, 4);
        other.ends(1, 2);
        other.hole(1, 1);
        other.draw(5);
        dueState("calls of another object", x, before);
    }

    // ---- Promise 2: hole

    void promise02_hole_placeBecomesHoleAndIsNoneAgain() {
        FrontierCounts x = new FrontierCounts(TREE, 3, 3);
        String before = state(x);
        due("hole(1, 1)", x.hole(1, 1), true);
        due("edges of the ring", x.edges(), 8);
        due("trees of the ring", x.count(), 8);
        due("hole(1, 1) again", x.hole(1, 1), true);
        dueState("a hole no more", x, before);
    }

    void promise02_hole_eachCornerIsAPlace() {
        FrontierCounts x = new FrontierCounts(TREE, 5, 4);
        due("hole(0, 0)", x.hole(0, 0), true);
        due("hole(4, 0)", x.hole(4, 0), true);
        due("hole(0, 3)", x.hole(0, 3), true);
        due("hole(4, 3)", x.hole(4, 3), true);
        due("edges", x.edges(), 31 - 8);
    }

    void promise02_hole_noSuchPlaceChangesNothing() {
        // The last three would be places if only x + width y were looked at, which wraps around.
        int[][] none = {{-1, 0}, {0, -1}, {-1, -1}, {4, 0}, {0, 4}, {4, 4}, {-1, 1}, {5, -1}, {LEAST, 0}, {0, LEAST},
            {MOST, 0}, {0, MOST}, {LEAST, LEAST}, {MOST, MOST}, {LEAST, 1 << 29}, {0, 1 << 30}, {1, -(1 << 30)}};
        FrontierCounts x = busy();
        String before = state(x);
        for (int[] at : none) {
            String call = "hole(" + at[0] + ", " + at[1] + ")";
            due(call, x.hole(at[0], at[1]), false);
            dueState(call, x, before);
        }
    }

    void promise02_hole_allEdgesAreThereAgain() {
        FrontierCounts x = withoutEdges(TREE, 3, 3);
        due("edges before", x.edges(), 0);
        x.hole(2, 2);
        due("edges after", x.edges(), 10);
        x.edge(0, 1, false);
        x.hole(2, 2);
        due("edges, a hole no more", x.edges(), 12);
        due("it is there already", x.edge(0, 1, true), false);
    }

    void promise02_hole_noneIsToldInOrOutThen() {
        FrontierCounts x = new FrontierCounts(TREE, 3, 3);
        x.force(0, IN);
        x.force(5, OUT);
        x.hole(0, 0);
        due("trees with a hole", x.count(), 56);
        x.force(0, IN);
        x.force(5, OUT);
        x.hole(0, 0);
        due("trees", x.count(), 192);
    }

    void promise02_hole_nothingIsDrawnThen() {
        FrontierCounts x = new FrontierCounts(TREE, 3, 3);
        due("draw(0)", x.draw(0), true);
        x.hole(1, 1);
        due("rank() with a hole", x.rank(), -1);
        due("edges drawn", way(x).indexOf('1'), -1);
        due("draw(0) again", x.draw(0), true);
        x.hole(1, 1);
        due("rank(), a hole no more", x.rank(), -1);
        due("edges drawn then", way(x).indexOf('1'), -1);
    }

    void promise02_hole_endsStayTold() {
        FrontierCounts x = path(3, 3, 0, 8);
        x.hole(1, 1);
        due("around the hole", x.count(), 2);
        x.hole(1, 1);
        due("without it", x.count(), 12);
    }

    // ---- Promise 3: edge

    void promise03_edge_takenAwayAndThereAgain() {
        FrontierCounts x = new FrontierCounts(TREE, 2, 2);
        String before = state(x);
        due("off", x.edge(0, 1, false), true);
        due("edges", x.edges(), 3);
        due("count", x.count(), 1);
        due("on", x.edge(0, 1, true), true);
        dueState("off and on", x, before);
    }

    void promise03_edge_eitherPlaceMayComeFirst() {
        FrontierCounts x = new FrontierCounts(TREE, 3, 3);
        due("off, to the left", x.edge(5, 4, false), true);
        due("on, to the right", x.edge(4, 5, true), true);
        due("off, up", x.edge(7, 4, false), true);
        due("on, down", x.edge(4, 7, true), true);
    }

    void promise03_edge_noSuchPlaceDoesNothing() {
        int[][] none = {{-1, 0}, {0, -1}, {-4, 0}, {0, -4}, {15, 16}, {16, 15}, {15, 19}, {19, 15}, {16, 17},
            {-2, -1}, {MOST, LEAST}, {LEAST, MOST}, {MOST, MOST - 1}, {LEAST, LEAST + 4}, {0, LEAST}, {MOST, 15}};
        refuse(none);
    }

    void promise03_edge_onePlaceTwiceDoesNothing() {
        refuse(new int[][] {{0, 0}, {5, 5}, {15, 15}});
    }

    void promise03_edge_placesNotSideBySideDoNothing() {
        refuse(new int[][] {{0, 2}, {0, 5}, {5, 0}, {1, 4}, {0, 8}, {8, 0}, {0, 15}, {5, 7}, {6, 14}});
    }

    void promise03_edge_lastOfARowAndFirstOfTheNextDoNothing() {
        refuse(new int[][] {{7, 8}, {8, 7}});
        FrontierCounts x = new FrontierCounts(TREE, 5, 5);
        for (int last = 4; last < 24; last += 5) {
            due("edge(" + last + ", " + (last + 1) + ", false)", x.edge(last, last + 1, false), false);
        }
        due("edges", x.edges(), 40);
    }

    void promise03_edge_holeHasNoEdges() {
        refuse(new int[][] {{3, 2}, {2, 3}, {3, 7}, {7, 3}, {12, 8}, {8, 12}, {12, 13}, {13, 12}});
        FrontierCounts x = new FrontierCounts(TREE, 2, 1);
        x.hole(0, 0);
        x.hole(1, 0);
        due("between two holes, off", x.edge(0, 1, false), false);
        due("between two holes, on", x.edge(0, 1, true), false);
    }

    void promise03_edge_thereAlreadyDoesNothing() {
        FrontierCounts x = busy();
        String before = state(x);
        due("edge(0, 1, true)", x.edge(0, 1, true), false);
        due("edge(4, 0, true)", x.edge(4, 0, true), false);
        dueState("on, it is so already", x, before);
    }

    void promise03_edge_takenAwayAlreadyDoesNothing() {
        FrontierCounts x = busy();
        String before = state(x);
        due("edge(5, 6, false)", x.edge(5, 6, false), false);
        due("edge(6, 5, false)", x.edge(6, 5, false), false);
        dueState("off, it is so already", x, before);
    }

    void promise03_edge_noneIsToldInOrOutThen() {
        FrontierCounts x = new FrontierCounts(LOOP, 3, 3);
        x.force(0, IN);
        due("loops with edge 0", x.count(), 7);
        x.edge(7, 8, false);
        due("off", x.count(), 6);
        x.force(0, OUT);
        x.edge(7, 8, true);
        due("on", x.count(), 13);
    }

    void promise03_edge_nothingIsDrawnThen() {
        FrontierCounts x = new FrontierCounts(TREE, 3, 3);
        x.draw(0);
        x.edge(0, 1, false);
        due("off", x.rank(), -1);
        due("off, edges drawn", way(x).indexOf('1'), -1);
        x.draw(0);
        x.edge(0, 1, true);
        due("on", x.rank(), -1);
        due("on, edges drawn", way(x).indexOf('1'), -1);
    }

    void promise03_edge_endsAndHolesStay() {
        FrontierCounts x = path(3, 3, 0, 8);
        x.hole(1, 1);
        due("off", x.edge(0, 1, false), true);
        due("the other way round", x.count(), 1);
        due("edges", x.edges(), 7);
    }

    void promise03_edge_oneColumnAndOneRow() {
        FrontierCounts column = new FrontierCounts(TREE, 1, 5);
        due("column, edge(3, 4, false)", column.edge(3, 4, false), true);
        due("column, edge(0, 2, false)", column.edge(0, 2, false), false);
        due("column, edges", column.edges(), 3);
        FrontierCounts row = new FrontierCounts(TREE, 5, 1);
        due("row, edge(3, 4, false)", row.edge(3, 4, false), true);
        due("row, edge(0, 5, false)", row.edge(0, 5, false), false);
        due("row, edges", row.edges(), 3);
        FrontierCounts one = new FrontierCounts(TREE, 1, 1);
        due("one place, edge(0, 1, false)", one.edge(0, 1, false), false);
        due("one place, edge(0, 1, true)", one.edge(0, 1, true), false);
        due("one place, edge(0, 0, true)", one.edge(0, 0, true), false);
    }

    private void refuse(int[][] pairs) {
        FrontierCounts x = busy();
        String before = state(x);
        for (int[] pair : pairs) {
            String call = "edge(" + pair[0] + ", " + pair[1] + ", ";
            due(call + "false)", x.edge(pair[0], pair[1], false), false);
            due(call + "true)", x.edge(pair[0], pair[1], true), false);
            dueState(call + "..)", x, before);
        }
    }

    // ---- Promise 4: ends

    void promise04_ends_firstAndLastPlace() {
        FrontierCounts x = new FrontierCounts(PATH, 5, 5);
        due("ends(0, 24)", x.ends(0, 24), true);
        due("count()", x.count(), 8512);
        due("ends(24, 0)", x.ends(24, 0), true);
        due("count(), the other way round", x.count(), 8512);
    }

    void promise04_ends_noSuchPlaceDoesNothing() {
        FrontierCounts x = busy();
        String before = state(x);
        for (int none : new int[] {-1, 16, 17, 25, 32, LEAST, LEAST + 1, MOST}) {
            due("ends(" + none + ", 1)", x.ends(none, 1), false);
            due("ends(1, " + none + ")", x.ends(1, none), false);
            due("ends(" + none + ", " + none + ")", x.ends(none, none), false);
            dueState("no place " + none, x, before);
        }
    }

    void promise04_ends_onePlaceTwiceDoesNothing() {
        FrontierCounts x = busy();
        String before = state(x);
        due("ends(0, 0)", x.ends(0, 0), false);
        due("ends(15, 15)", x.ends(15, 15), false);
        due("ends(3, 3), a hole", x.ends(3, 3), false);
        dueState("one place", x, before);
    }

    void promise04_ends_holeMayBeTold() {
        FrontierCounts x = path(3, 3, 0, 8);
        x.hole(1, 1);
        due("ends(4, 0)", x.ends(4, 0), true);
        due("count(), the first one is a hole", x.count(), 0);
        due("ends(0, 4)", x.ends(0, 4), true);
        due("count(), the second one is a hole", x.count(), 0);
        x.hole(1, 1);
        due("count(), it is none any more", x.count(), 8);
    }

    void promise04_ends_nothingIsDrawnThen() {
        FrontierCounts x = path(3, 3, 0, 8);
        due("draw(0)", x.draw(0), true);
        due("other ends", x.ends(0, 2), true);
        due("rank()", x.rank(), -1);
        due("edges drawn", way(x).indexOf('1'), -1);
        x.draw(0);
        due("the same ends", x.ends(0, 2), true);
        due("rank(), the same ends", x.rank(), -1);
    }

    void promise04_ends_edgesAndWhatIsToldOfThemStay() {
        FrontierCounts x = busy();
        due("ways before", x.count(), BUSY_WAYS);
        due("ends(15, 0)", x.ends(15, 0), true);
        due("ways after", x.count(), BUSY_WAYS);
        due("edges after", x.edges(), 19);
    }

    void promise04_ends_endsOfOtherKinds() {
        long[] ways = {2, 2, 1, 4, 1};
        for (int kind = 0; kind <= 4; kind++) {
            FrontierCounts x = new FrontierCounts(kind, 2, 2);
            x.draw(0);
            due("ends(0, 3), kind " + kind, x.ends(0, 3), true);
            due("rank(), kind " + kind, x.rank(), -1);
            due("count(), kind " + kind, x.count(), ways[kind]);
            due("ends(0, 4), kind " + kind, x.ends(0, 4), false);
        }
    }

    void promise04_ends_onePlaceAloneHasNoEnds() {
        FrontierCounts x = new FrontierCounts(PATH, 1, 1);
        due("ends(0, 0)", x.ends(0, 0), false);
        due("ends(0, 1)", x.ends(0, 1), false);
        due("count()", x.count(), 0);
    }

    // ---- Promise 5: edges

    void promise05_edges_onePlaceHasNone() {
        due("edges()", new FrontierCounts(PAIRS, 1, 1).edges(), 0);
    }

    void promise05_edges_withoutPlacesThereAreNone() {
        due("5 by 5", withoutPlaces(PAIRS, 5, 5).edges(), 0);
        due("1 by 1", withoutPlaces(PAIRS, 1, 1).edges(), 0);
    }

    void promise05_edges_allMayBeTakenAway() {
        due("5 by 5", withoutEdges(PAIRS, 5, 5).edges(), 0);
    }

    void promise05_edges_theMostAreForty() {
        due("5 by 5", new FrontierCounts(PAIRS, 5, 5).edges(), 40);
        due("9 by 9", new FrontierCounts(PAIRS, 9, 9).edges(), 40);
    }

    void promise05_edges_holeTakesUpToFour() {
        FrontierCounts x = new FrontierCounts(PAIRS, 5, 5);
        x.hole(2, 2);
        due("in the middle", x.edges(), 36);
        x.hole(2, 2);
        x.hole(0, 2);
        due("at the side", x.edges(), 37);
        x.hole(0, 2);
        x.hole(4, 4);
        due("in the corner", x.edges(), 38);
    }

    void promise05_edges_holesSideBySideShareOne() {
        FrontierCounts x = new FrontierCounts(PAIRS, 5, 5);
        x.hole(2, 2);
        x.hole(2, 3);
        due("edges()", x.edges(), 33);
    }

    void promise05_edges_whatIsToldChangesNone() {
        FrontierCounts x = new FrontierCounts(PAIRS, 2, 2);
        x.force(0, OUT);
        x.force(1, IN);
        due("edges()", x.edges(), 4);
    }

    // ---- Promise 6: end

    void promise06_end_rightComesBeforeBelow() {
        sameEnds(new FrontierCounts(PAIRS, 2, 2), new int[][] {{0, 1}, {0, 2}, {1, 3}, {2, 3}});
    }

    void promise06_end_lastOfARowHasOnlyBelow() {
        sameEnds(new FrontierCounts(PAIRS, 3, 2),
                new int[][] {{0, 1}, {0, 3}, {1, 2}, {1, 4}, {2, 5}, {3, 4}, {4, 5}});
    }

    void promise06_end_oneRow() {
        sameEnds(new FrontierCounts(PAIRS, 5, 1), new int[][] {{0, 1}, {1, 2}, {2, 3}, {3, 4}});
    }

    void promise06_end_oneColumn() {
        sameEnds(new FrontierCounts(PAIRS, 1, 5), new int[][] {{0, 1}, {1, 2}, {2, 3}, {3, 4}});
    }

    void promise06_end_numbersCloseUpWhereOneIsTakenAway() {
        FrontierCounts x = new FrontierCounts(PAIRS, 2, 2);
        x.edge(2, 0, false);
        sameEnds(x, new int[][] {{0, 1}, {1, 3}, {2, 3}});
        x.edge(2, 3, false);
        sameEnds(x, new int[][] {{0, 1}, {1, 3}});
        x.edge(0, 2, true);
        sameEnds(x, new int[][] {{0, 1}, {0, 2}, {1, 3}});
    }

    void promise06_end_numbersCloseUpAroundAHole() {
        FrontierCounts x = new FrontierCounts(PAIRS, 3, 2);
        x.hole(1, 0);
        sameEnds(x, new int[][] {{0, 3}, {2, 5}, {3, 4}, {4, 5}});
    }

    void promise06_end_firstAndLastOfForty() {
        FrontierCounts x = new FrontierCounts(PAIRS, 5, 5);
        due("end(0, false)", x.end(0, false), 0);
        due("end(0, true)", x.end(0, true), 1);
        due("end(39, false)", x.end(39, false), 23);
        due("end(39, true)", x.end(39, true), 24);
    }

    void promise06_end_noSuchEdge() {
        noEnds(new FrontierCounts(PAIRS, 5, 5), 40);
        noEnds(new FrontierCounts(PAIRS, 2, 2), 4);
        noEnds(busy(), 19);
    }

    void promise06_end_withoutAnyEdges() {
        noEnds(new FrontierCounts(PAIRS, 1, 1), 0);
        noEnds(withoutPlaces(PAIRS, 5, 5), 0);
        noEnds(withoutEdges(PAIRS, 5, 5), 0);
    }

    private void sameEnds(FrontierCounts x, int[][] want) {
        due("edges()", x.edges(), want.length);
        for (int e = 0; e < want.length; e++) {
            due("end(" + e + ", false)", x.end(e, false), want[e][0]);
            due("end(" + e + ", true)", x.end(e, true), want[e][1]);
        }
        noEnds(x, want.length);
    }

    private void noEnds(FrontierCounts x, int edges) {
        for (int e : new int[] {LEAST, -64, -1, edges, edges + 1, 41, 49, 50, 64, MOST}) {
            due("end(" + e + ", false)", x.end(e, false), -1);
            due("end(" + e + ", true)", x.end(e, true), -1);
        }
    }

    // ---- Promise 7: force

    void promise07_force_noSuchEdgeDoesNothing() {
        FrontierCounts x = busy();
        String before = state(x);
        for (int none : new int[] {LEAST, -64, -1, 19, 20, 39, 40, 49, 50, 64, 64 + BUSY_IN, MOST}) {
            for (int how = FREE; how <= OUT; how++) {
                due("force(" + none + ", " + how + ")", x.force(none, how), false);
            }
            dueState("no edge " + none, x, before);
        }
    }

    void promise07_force_noSuchHowDoesNothing() {
        FrontierCounts x = busy();
        String before = state(x);
        for (int none : new int[] {LEAST, -2, -1, 3, 4, 5, 256, 257, MOST}) {
            due("force(" + BUSY_IN + ", " + none + ")", x.force(BUSY_IN, none), false);
            due("force(" + BUSY_OUT + ", " + none + ")", x.force(BUSY_OUT, none), false);
            due("force(0, " + none + ")", x.force(0, none), false);
            dueState("no how " + none, x, before);
        }
    }

    void promise07_force_withoutAnyEdges() {
        for (int how = FREE; how <= OUT; how++) {
            due("one place", new FrontierCounts(TREE, 1, 1).force(0, how), false);
            due("no places", withoutPlaces(TREE, 5, 5).force(0, how), false);
            due("all taken away", withoutEdges(TREE, 5, 5).force(0, how), false);
        }
    }

    void promise07_force_firstAndLastEdge() {
        FrontierCounts x = new FrontierCounts(TREE, 5, 5);
        due("force(39, 1)", x.force(39, IN), true);
        long in = x.count();
        due("force(39, 2)", x.force(39, OUT), true);
        due("with and without the last", in + x.count(), 557568000);
        due("force(39, 0)", x.force(39, FREE), true);
        due("force(0, 2)", x.force(0, OUT), true);
        long out = x.count();
        due("force(0, 1)", x.force(0, IN), true);
        due("with and without the first", out + x.count(), 557568000);
    }

    void promise07_force_whatIsToldLastHolds() {
        long[] ways = {3, 2, 1};
        for (int first = FREE; first <= OUT; first++) {
            for (int last = FREE; last <= OUT; last++) {
                FrontierCounts x = new FrontierCounts(LOOP, 3, 2);
                x.force(0, first);
                x.force(0, last);
                due(first + " then " + last, x.count(), ways[last]);
            }
        }
    }

    void promise07_force_freeIsAsIfNothingWasTold() {
        FrontierCounts x = new FrontierCounts(TREE, 3, 3);
        due("free, it was never told", x.force(4, FREE), true);
        due("trees", x.count(), 192);
        x.force(4, IN);
        due("free after IN", x.force(4, FREE), true);
        due("trees again", x.count(), 192);
        x.force(4, OUT);
        due("free after OUT", x.force(4, FREE), true);
        due("trees still", x.count(), 192);
    }

    void promise07_force_nothingIsDrawnThen() {
        FrontierCounts x = new FrontierCounts(TREE, 3, 3);
        for (int how : new int[] {IN, IN, OUT, OUT, FREE, FREE}) {
            due("draw(0)", x.draw(0), true);
            due("force(4, " + how + ")", x.force(4, how), true);
            due("rank() after " + how, x.rank(), -1);
            due("edges drawn after " + how, way(x).indexOf('1'), -1);
        }
    }

    void promise07_force_allMayBeInOrOut() {
        for (int how = IN; how <= OUT; how++) {
            FrontierCounts x = new FrontierCounts(LOOP, 2, 2);
            for (int e = 0; e < 4; e++) {
                due("force(" + e + ", " + how + ")", x.force(e, how), true);
            }
            due("loops, all " + how, x.count(), how == IN ? 1 : 0);
        }
    }

    void promise07_force_isOfTheEdgeThatHasTheNumberNow() {
        FrontierCounts x = new FrontierCounts(PAIRS, 2, 2);
        x.edge(0, 1, false);
        due("force(0, 2), now from 0 to 2", x.force(0, OUT), true);
        due("pairs", x.count(), 0);
    }
}

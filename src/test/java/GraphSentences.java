/** The sentences on the control flow graph and on the placement of counters. */
final class GraphSentences {
    private static final int INVALID = EdgeCounterPlacer.INVALID_ARGUMENT;
    private static final int NOT_POSSIBLE = EdgeCounterPlacer.NOT_POSSIBLE;
    private static final int RANGE = EdgeCounterPlacer.REASON_RANGE;
    private static final int FULL = EdgeCounterPlacer.REASON_FULL;
    private static final String TEN_BLOCKS =
        "b10;e0,1,1;e1,2,1;e2,3,1;e3,4,1;e4,5,1;e5,6,1;e6,7,1;e7,8,1;e8,9,1;";

    private final Sentences s;

    GraphSentences(Sentences s) {
        this.s = s;
    }

    void look() {
        s.part("Control flow graph");
        blocks();
        edges();
        abortEdges();
        returnEdge();
        complete();
        s.part("Placement");
        tree();
        treeFoundAnew();
    }

    private void blocks() {
        s.test("The graph has blocks 0 to n - 1, with n from 2 to 10.", () -> {
            s.configures("b2;e0,1,1;", 1);
            s.configures(TEN_BLOCKS, 9);
            s.malformed("b1;", 0, RANGE);
            s.malformed("b11;", 0, RANGE);
            s.malformed("b10;e0,10,1;", 4, RANGE);
            s.equal("the last of ten blocks", Texts.configured(TEN_BLOCKS).executions(9), 0);
            s.equal("no eleventh block", Texts.configured(TEN_BLOCKS).executions(10), INVALID);
            s.equal("the last of two blocks", Texts.configured("b2;a0;").executions(1), 0);
            s.equal("no third block", Texts.configured("b2;a0;").executions(2), INVALID);
        });
        s.test("Block 0 is the entry and block n - 1 is the exit.", () -> {
            EdgeCounterPlacer x = Texts.configured("b3;e0,1,1;e1,2,1;");
            s.equal("a run starts at", x.presentBlock(), 0);
            s.equal("follow(0) to the block before the exit", x.follow(0), 1);
            s.equal("finishedRuns() before the exit", x.finishedRuns(), 0);
            s.equal("follow(1) to the exit", x.follow(1), 0);
            s.equal("finishedRuns() behind the exit", x.finishedRuns(), 1);
        });
    }

    private void edges() {
        s.test("It has at most 20 edges, numbered from 0.", () -> {
            String most = "b2;" + "e0,1,1;".repeat(20);
            s.configures(most, 20);
            s.malformed(most + "e0,1,1;", most.length(), FULL);
            EdgeCounterPlacer x = Texts.configured(most);
            s.equal("weightOf(-1)", x.weightOf(-1), INVALID);
            s.equal("weightOf(0)", x.weightOf(0), 1);
            s.equal("weightOf(19)", x.weightOf(19), 1);
            s.equal("weightOf(20)", x.weightOf(20), INVALID);
        });
        s.test("An edge leads from a block to a different block and has a weight from 0 to 999.", () -> {
            s.malformed("b3;e1,1,5;", 3, RANGE);
            EdgeCounterPlacer x = Texts.configured("b3;e0,1,0;e1,2,999;");
            s.equal("weightOf(0)", x.weightOf(0), 0);
            s.equal("weightOf(1)", x.weightOf(1), 999);
        });
        s.test("No edge leads from the exit, and no edge leads to the entry.", () -> {
            s.malformed("b4;e3,1,5;", 3, RANGE);
            s.malformed("b4;e1,0,5;", 3, RANGE);
            s.malformed("b4;e3,0,5;", 3, RANGE);
            s.wellFormed("b4;e2,1,5;e0,3,5;");
        });
        s.test("Several edges may lead from one block to the same other block.", () -> {
            EdgeCounterPlacer x = Texts.configured("b3;e0,1,5;e0,1,5;a1;e1,2,5;e0,1,5;");
            int[] sources = {0, 0, 1, 1, 0};
            for (int edge = 0; edge < 5; edge++) {
                s.equal("sourceOf(" + edge + ")", x.sourceOf(edge), sources[edge]);
                s.equal("targetOf(" + edge + ")", x.targetOf(edge), sources[edge] + 1);
            }
            s.follow(x, 1, 2, 4, 3, 4);
            int[] counts = {0, 1, 1, 1, 2};
            for (int edge = 0; edge < 5; edge++) {
                s.equal("trueCount(" + edge + ")", x.trueCount(edge), counts[edge]);
            }
        });
        s.test("Ordinary edges are stated by e statements of the graph text.", () -> {
            EdgeCounterPlacer x = Texts.configured("b4;e0,2,7;e2,1,8;e1,3,9;");
            int[][] stated = {{0, 2, 7}, {2, 1, 8}, {1, 3, 9}};
            for (int edge = 0; edge < 3; edge++) {
                s.equal("sourceOf(" + edge + ")", x.sourceOf(edge), stated[edge][0]);
                s.equal("targetOf(" + edge + ")", x.targetOf(edge), stated[edge][1]);
                s.equal("weightOf(" + edge + ")", x.weightOf(edge), stated[edge][2]);
            }
        });
    }

    private void abortEdges() {
        s.test("A block other than the exit may be stated to abort (a call in it may not return); it then has one "
            + "abort edge, which leads from the block to the exit and has weight 0 at first.", () -> {
            EdgeCounterPlacer x = Texts.configured("b4;a0;a2;e0,1,3;e1,2,3;");
            s.equal("sourceOf(0), the entry's abort edge", x.sourceOf(0), 0);
            s.equal("targetOf(0)", x.targetOf(0), 3);
            s.equal("weightOf(0)", x.weightOf(0), 0);
            s.equal("sourceOf(1), of the last block but one", x.sourceOf(1), 2);
            s.equal("targetOf(1)", x.targetOf(1), 3);
            s.equal("weightOf(1)", x.weightOf(1), 0);
            s.equal("setWeight(1, 999)", x.setWeight(1, 999), 0);
            s.equal("weightOf(1) later", x.weightOf(1), 999);
            s.malformed("b4;a3;", 3, RANGE);
        });
        s.test("The edges are numbered in the order in which their statements appear in the text, ordinary and abort "
            + "edges alike.", () -> {
            EdgeCounterPlacer x = Texts.configured("b4;a2;e1,2,11;a0;e0,1,12;a1;");
            int[][] stated = {{2, 3, 0}, {1, 2, 11}, {0, 3, 0}, {0, 1, 12}, {1, 3, 0}};
            for (int edge = 0; edge < 5; edge++) {
                s.equal("sourceOf(" + edge + ")", x.sourceOf(edge), stated[edge][0]);
                s.equal("targetOf(" + edge + ")", x.targetOf(edge), stated[edge][1]);
                s.equal("weightOf(" + edge + ")", x.weightOf(edge), stated[edge][2]);
            }
            s.equal("weightOf(5)", x.weightOf(5), INVALID);
        });
    }

    private void returnEdge() {
        s.test("The graph also has a return edge, which leads from the exit to the entry.", () -> {
            // Nothing else leads from the exit, and its place in the tree makes both edges chords.
            s.chords("b2;e0,1,999;e0,1,999;", 0, 1);
        });
        s.test("The return edge has no number and no weight, never has a counter, and is passed once at the end of "
            + "each run.", () -> {
            EdgeCounterPlacer x = Texts.configured("b2;e0,1,5;e0,1,5;");
            s.equal("blockCount()", x.blockCount(), 2);
            s.equal("no number behind the last edge", x.sourceOf(2), INVALID);
            s.equal("no number before the first edge", x.sourceOf(-1), INVALID);
            s.equal("counterCount()", x.counterCount(), 2);
            s.equal("placementCost() without its weight", x.placementCost(), 10);
            s.equal("costShareBits() without its weight", x.costShareBits(), 0x3f800000);
            for (int run = 1; run <= 3; run++) {
                s.equal("presentBlock() once it is passed", x.follow(run % 2), 0);
                s.equal("executions(0) before the next edge", x.executions(0), run);
            }
        });
    }

    private void complete() {
        s.test("The graph is complete if an edge leads from every block other than the exit, and if every block can be "
            + "reached from every other block when edges (the return edge included) may be followed in both "
            + "directions.", () -> {
            s.configures("b2;a0;", 1);
            s.configures("b3;e0,1,1;", NOT_POSSIBLE);
            s.configures("b3;e1,2,1;", NOT_POSSIBLE);
            s.configures("b3;e0,1,1;a1;", 2);
            s.configures("b3;a0;", NOT_POSSIBLE);
            s.configures("b3;a0;a1;", 2);
            // The exit is reached by the return edge alone.
            s.configures("b4;e0,1,1;e1,2,1;e2,1,1;", 3);
            // Block 2 is reached against the direction of its edge alone.
            s.configures("b4;e0,1,1;e1,3,1;e2,1,1;", 3);
            // All blocks have an edge, but 1 and 2, or 7 and 8, hang together alone.
            s.configures("b4;a0;e1,2,1;e2,1,1;", NOT_POSSIBLE);
            s.configures("b10;e0,1,1;e1,2,1;e2,3,1;e3,4,1;e4,5,1;e5,6,1;e6,9,1;e7,8,1;e8,7,1;", NOT_POSSIBLE);
            s.configures("b10;e0,1,1;e1,2,1;e2,3,1;e3,4,1;e4,5,1;e5,6,1;e6,9,1;e7,8,1;e8,7,1;e8,6,1;", 10);
            // The last edge that joins is the first one stated, so a chain must be gone against its order.
            s.configures("b10;e8,9,1;e7,8,1;e6,7,1;e5,6,1;e4,5,1;e3,4,1;e2,3,1;e1,2,1;e0,1,1;", 9);
            s.configures("b10;a0;e8,7,1;e7,6,1;e6,5,1;e5,4,1;e4,3,1;e3,2,1;e2,1,1;e1,9,1;", 9);
            s.configures("b10;e0,1,1;e8,7,1;e7,6,1;e6,5,1;e5,4,1;e4,3,1;e3,2,1;e2,1,1;e1,2,1;", 9);
        });
    }

    private void tree() {
        s.test("The spanning tree is found as follows. At first it consists of the return edge.", () -> {
            s.chords("b2;e0,1,999;", 0);
            s.chords("b3;e0,2,999;e0,1,0;e1,2,1;", 0, 1);
        });
        s.test("Then all edges are considered in the order of falling weight, edges of the same weight in the order of "
            + "rising numbers.", () -> {
            s.chords("b3;e0,1,998;e0,1,999;e1,2,0;", 0, 2);
            s.chords("b3;e0,1,1;e0,1,0;a1;", 1, 2);
            s.chords("b3;e0,1,0;e0,1,1;a1;", 0, 2);
            s.chords("b3;e0,1,999;e0,1,999;a1;", 1, 2);
            s.chords("b3;e0,1,0;e0,1,0;a1;", 1, 2);
            s.chords("b3;e1,2,5;e0,1,5;", 1);
            s.chords("b4;e0,1,5;e1,2,5;e2,1,5;e2,3,5;", 2, 3);
            s.chords("b4;e0,1,0;e1,2,0;e2,1,0;e2,3,0;", 2, 3);
            // The lightest edge of all joins last, here the last one and here the first one.
            s.chords("b4;e0,1,5;e1,3,5;e2,1,0;", 1);
            s.chords("b4;e2,1,0;e0,1,5;e1,3,5;", 2);
            s.chords("b2;" + "e0,1,9;".repeat(20), 0, 1, 2, 3, 4, 5, 6, 7, 8, 9, 10, 11, 12, 13, 14, 15, 16, 17, 18, 19);
            s.chords("b3;" + "e0,1,9;".repeat(18) + "a1;e0,1,10;", 0, 1, 2, 3, 4, 5, 6, 7, 8, 9, 10, 11, 12, 13, 14, 15,
                16, 17, 18);
        });
        s.test("An edge joins the tree if it connects two blocks that the tree does not connect yet (directions do not "
            + "matter).", () -> {
            s.chords("b4;e1,2,9;e2,1,8;e0,1,7;e2,3,6;", 1, 3);
            s.chords("b4;e2,1,9;e1,2,8;e0,1,7;e2,3,6;", 1, 3);
            s.chords("b4;e0,1,9;e2,3,8;e1,2,7;", 2);
            s.chords("b4;e0,2,9;e1,2,8;e1,3,7;a2;", 2, 3);
        });
        s.test("An edge that is not in the tree is a chord. Each chord has a counter.", () -> {
            EdgeCounterPlacer x = new EdgeCounterPlacer();
            int[] counters = {-104, -104, -104, 0, 0, 0, -104, 0};
            for (int edge = 0; edge < 8; edge++) {
                s.equal("hasCounter(" + edge + ")", x.hasCounter(edge), counters[edge] == 0 ? 1 : 0);
                s.equal("counter(" + edge + ")", x.counter(edge), counters[edge]);
            }
        });
    }

    private void treeFoundAnew() {
        s.test("The tree is found by configure, and found anew by every successful call of setWeight and adoptCounts, "
            + "also if all weights stay as they were.", () -> {
            EdgeCounterPlacer x = Texts.configured("b3;e0,1,5;e0,1,4;a1;");
            s.chords(x, 1, 2);
            s.equal("setWeight(1, 5)", x.setWeight(1, 5), 4);
            s.chords(x, 1, 2);
            s.equal("setWeight(1, 6)", x.setWeight(1, 6), 5);
            s.chords(x, 0, 2);
            s.equal("setWeight(1, 6) again", x.setWeight(1, 6), 6);
            s.chords(x, 0, 2);
            s.follow(x, 0, 2);
            s.equal("adoptCounts()", x.adoptCounts(), 3);
            s.chords(x, 1, 2);
            s.follow(x, 0, 2);
            s.equal("adoptCounts() of the same counts", x.adoptCounts(), 0);
            s.chords(x, 1, 2);
            s.startsAnew(x);
            s.equal("configure()", x.configure(), 3);
            s.chords(x, 1, 2);
            s.equal("weightOf(1)", x.weightOf(1), 4);
        });
    }
}

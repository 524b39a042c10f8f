/** Promises 11, 23 and 25: adoptCounts, reconstruct and executions, with their uncertainty. */
public final class ReconstructionTest {
    private static final Due DUE = new Due("ReconstructionTest");
    private static final int INVALID = EdgeCounterPlacer.INVALID_ARGUMENT;
    private static final int UNCERTAIN = EdgeCounterPlacer.UNCERTAIN;

    public static void main(String[] args) {
        everyStepOfARun();
        refusals();
        uncertainEdges();
        firstEdgeAsChord();
        uncertainExecutions();
        executionsOfTheEntry();
        adoptTakesTheCounts();
        adoptCutsAt999();
        adoptCountsAnOpenRun();
        adoptFindsTheTreeAnewWithoutChange();
        adoptRefuses();
        DUE.close();
    }

    private static void everyStepOfARun() {
        EdgeCounterPlacer x = new EdgeCounterPlacer();
        int[] edges = {0, 1, 3, 6, 2, 4, 6, 1, 3, 7, 0, 2, 5, 0};
        int[] entered = new int[6];
        int[] targets = {1, 2, 3, 4, 4, 5, 1, 5};
        for (int followed : edges) {
            x.follow(followed);
            entered[targets[followed]]++;
            for (int edge = 0; edge < 8; edge++) {
                DUE.equal("reconstruct(" + edge + ")", x.reconstruct(edge), x.trueCount(edge));
            }
            for (int block = 1; block < 6; block++) {
                DUE.equal("executions(" + block + ")", x.executions(block), entered[block]);
            }
        }
    }

    private static void refusals() {
        EdgeCounterPlacer x = new EdgeCounterPlacer();
        for (int edge : new int[] {8, 20, 32, -1, Integer.MIN_VALUE, Integer.MAX_VALUE}) {
            DUE.equal("reconstruct(" + edge + ")", x.reconstruct(edge), INVALID);
        }
        for (int block : new int[] {6, 10, 32, -1, Integer.MIN_VALUE, Integer.MAX_VALUE}) {
            DUE.equal("executions(" + block + ")", x.executions(block), INVALID);
        }
    }

    /** Chord 3 at the limit makes itself and the tree edges 1 and 6 uncertain, the others stay. */
    private static void uncertainEdges() {
        EdgeCounterPlacer x = new EdgeCounterPlacer();
        x.setCounterLimit(1);
        x.follow(0);
        x.follow(1);
        x.follow(3);
        int[] due = {1, UNCERTAIN, 0, UNCERTAIN, 0, 0, UNCERTAIN, 0};
        for (int edge = 0; edge < 8; edge++) {
            DUE.equal("reconstruct(" + edge + ")", x.reconstruct(edge), due[edge]);
        }
        DUE.equal("saturatedCount()", x.saturatedCount(), 1);
    }

    private static void firstEdgeAsChord() {
        EdgeCounterPlacer x = Texts.configured("b3;e0,1,1;e0,1,2;e1,2,3;");
        x.follow(0);
        x.follow(2);
        DUE.equal("reconstruct(2)", x.reconstruct(2), 1);
        x.setCounterLimit(1);
        x.follow(0);
        DUE.equal("reconstruct(2) by a saturated counter", x.reconstruct(2), UNCERTAIN);
        EdgeCounterPlacer alone = Texts.configured("b2;e0,1,1;e0,1,1;");
        alone.setCounterLimit(1);
        alone.follow(0);
        DUE.equal("adoptCounts() where edge 0 alone is uncertain", alone.adoptCounts(), UNCERTAIN);
        DUE.equal("reconstruct(1)", alone.reconstruct(1), 0);
    }

    private static void uncertainExecutions() {
        EdgeCounterPlacer x = new EdgeCounterPlacer();
        x.setCounterLimit(1);
        x.follow(0);
        x.follow(1);
        x.follow(3);
        int[] due = {1, UNCERTAIN, UNCERTAIN, 0, UNCERTAIN, 0};
        for (int block = 0; block < 6; block++) {
            DUE.equal("executions(" + block + ")", x.executions(block), due[block]);
        }
        x.follow(7);
        int[] dueAfter = {1, UNCERTAIN, UNCERTAIN, 0, UNCERTAIN, UNCERTAIN};
        for (int block = 0; block < 6; block++) {
            DUE.equal("executions(" + block + ") after the run", x.executions(block), dueAfter[block]);
        }
    }

    private static void executionsOfTheEntry() {
        EdgeCounterPlacer x = new EdgeCounterPlacer();
        DUE.equal("executions(0) of a new object", x.executions(0), 0);
        x.follow(0);
        DUE.equal("executions(0) of an open run", x.executions(0), 1);
        x.follow(2);
        x.follow(5);
        DUE.equal("executions(0) of a finished run", x.executions(0), 1);
        x.follow(0);
        DUE.equal("executions(0) of a finished and an open run", x.executions(0), 2);
    }

    private static void adoptTakesTheCounts() {
        EdgeCounterPlacer x = new EdgeCounterPlacer();
        x.setCounterLimit(30);
        for (int run = 0; run < 3; run++) {
            x.follow(0);
            x.follow(2);
            x.follow(5);
        }
        DUE.equal("adoptCounts()", x.adoptCounts(), 8);
        int[] weights = {3, 0, 3, 0, 0, 3, 0, 0};
        int[] chord = {0, 0, 0, 0, 1, 1, 1, 1};
        for (int edge = 0; edge < 8; edge++) {
            DUE.equal("weightOf(" + edge + ")", x.weightOf(edge), weights[edge]);
            DUE.equal("hasCounter(" + edge + ")", x.hasCounter(edge), chord[edge]);
            DUE.equal("trueCount(" + edge + ")", x.trueCount(edge), 0);
            DUE.equal("reconstruct(" + edge + ")", x.reconstruct(edge), 0);
        }
        DUE.equal("finishedRuns()", x.finishedRuns(), 0);
        DUE.equal("presentBlock()", x.presentBlock(), 0);
        DUE.equal("the limit stays", x.setCounterLimit(9), 30);
    }

    private static void adoptCutsAt999() {
        EdgeCounterPlacer x = Texts.configured("b3;e0,1,999;e1,2,5;");
        x.drive(1, 500);
        x.drive(1, 500);
        x.drive(1, 500);
        x.drive(1, 498);
        DUE.equal("reconstruct(0)", x.reconstruct(0), 999);
        DUE.equal("adoptCounts() of 999", x.adoptCounts(), 1);
        DUE.equal("weightOf(1)", x.weightOf(1), 999);
        for (int call = 0; call < 4; call++) {
            x.drive(1, 500);
        }
        DUE.equal("reconstruct(0)", x.reconstruct(0), 1000);
        DUE.equal("adoptCounts() of 1000", x.adoptCounts(), 0);
        DUE.equal("weightOf(0)", x.weightOf(0), 999);
        DUE.equal("weightOf(1)", x.weightOf(1), 999);
    }

    private static void adoptCountsAnOpenRun() {
        EdgeCounterPlacer x = new EdgeCounterPlacer();
        x.follow(0);
        x.follow(1);
        DUE.equal("adoptCounts() of an open run", x.adoptCounts(), 7);
        int[] weights = {1, 1, 0, 0, 0, 0, 0, 0};
        for (int edge = 0; edge < 8; edge++) {
            DUE.equal("weightOf(" + edge + ")", x.weightOf(edge), weights[edge]);
        }
        DUE.equal("presentBlock()", x.presentBlock(), 0);
    }

    private static void adoptFindsTheTreeAnewWithoutChange() {
        EdgeCounterPlacer x = Texts.configured("b3;e0,1,1;e0,1,0;a1;");
        x.follow(0);
        DUE.equal("adoptCounts() of the same weights", x.adoptCounts(), 0);
        DUE.equal("trueCount(0)", x.trueCount(0), 0);
        DUE.equal("presentBlock()", x.presentBlock(), 0);
        DUE.equal("undo()", x.undo(), 1);
        DUE.equal("presentBlock() undone", x.presentBlock(), 1);
    }

    private static void adoptRefuses() {
        EdgeCounterPlacer x = new EdgeCounterPlacer();
        x.setCounterLimit(1);
        x.follow(0);
        x.follow(2);
        x.follow(5);
        DUE.equal("adoptCounts() with one counter saturated", x.adoptCounts(), UNCERTAIN);
        DUE.equal("weightOf(0)", x.weightOf(0), 100);
        DUE.equal("trueCount(0)", x.trueCount(0), 1);
        DUE.equal("finishedRuns()", x.finishedRuns(), 1);
        DUE.equal("undo()", x.undo(), 3);
        DUE.equal("adoptCounts() before it", x.adoptCounts(), 7);
    }
}

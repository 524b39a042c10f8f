/** Promises 1, 7, 13 to 20, 24 and 26: the graph, its weights, the spanning tree and its chords. */
public final class PlacementTest {
    private static final Due DUE = new Due("PlacementTest");
    private static final int INVALID = EdgeCounterPlacer.INVALID_ARGUMENT;
    private static final int NOT_FOUND = EdgeCounterPlacer.NOT_FOUND;
    private static final int[] NO_EDGES = {8, 20, 31, 32, 64, -1, -32, Integer.MIN_VALUE, Integer.MAX_VALUE};

    public static void main(String[] args) {
        newObject();
        questionsForNoEdge();
        fallingWeightThenRisingNumber();
        returnEdgeJoinsFirst();
        parallelEdges();
        setWeightFindsTheTreeAnew();
        setWeightStartsAnew();
        setWeightRefuses();
        costAndShare();
        shareBitsAreRounded();
        coefficientsOfTheFirstGraph();
        coefficientRefuses();
        dependentsOfTheFirstGraph();
        DUE.close();
    }

    private static void newObject() {
        EdgeCounterPlacer x = new EdgeCounterPlacer();
        DUE.equal("blockCount()", x.blockCount(), 6);
        int[] sources = {0, 1, 1, 2, 3, 3, 4, 4};
        int[] targets = {1, 2, 3, 4, 4, 5, 1, 5};
        int[] weights = {100, 60, 40, 60, 35, 0, 90, 10};
        for (int edge = 0; edge < 8; edge++) {
            DUE.equal("sourceOf(" + edge + ")", x.sourceOf(edge), sources[edge]);
            DUE.equal("targetOf(" + edge + ")", x.targetOf(edge), targets[edge]);
            DUE.equal("weightOf(" + edge + ")", x.weightOf(edge), weights[edge]);
            DUE.equal("trueCount(" + edge + ")", x.trueCount(edge), 0);
            DUE.equal("reconstruct(" + edge + ")", x.reconstruct(edge), 0);
        }
        chords(x, "a new object", 3, 4, 5, 7);
        DUE.equal("presentBlock()", x.presentBlock(), 0);
        DUE.equal("finishedRuns()", x.finishedRuns(), 0);
        DUE.equal("saturatedCount()", x.saturatedCount(), 0);
        DUE.equal("undo()", x.undo(), EdgeCounterPlacer.NOT_POSSIBLE);
        DUE.equal("firstError()", x.firstError(), NOT_FOUND);
        DUE.equal("errorReason()", x.errorReason(), NOT_FOUND);
        DUE.equal("configure() by the empty text", x.configure(), EdgeCounterPlacer.NOT_POSSIBLE);
        DUE.equal("clearText()", x.clearText(), 0);
        DUE.equal("setCounterLimit(9)", x.setCounterLimit(9), 60000);
    }

    private static void questionsForNoEdge() {
        EdgeCounterPlacer x = new EdgeCounterPlacer();
        for (int edge : NO_EDGES) {
            DUE.equal("sourceOf(" + edge + ")", x.sourceOf(edge), INVALID);
            DUE.equal("targetOf(" + edge + ")", x.targetOf(edge), INVALID);
            DUE.equal("weightOf(" + edge + ")", x.weightOf(edge), INVALID);
            DUE.equal("hasCounter(" + edge + ")", x.hasCounter(edge), INVALID);
            DUE.equal("dependents(" + edge + ")", x.dependents(edge), INVALID);
        }
    }

    /** Asks for all edges of a placer which of them have a counter; the chords come in rising order. */
    private static void chords(EdgeCounterPlacer x, String what, int... chords) {
        DUE.equal("counterCount() of " + what, x.counterCount(), chords.length);
        int next = 0;
        for (int edge = 0; x.sourceOf(edge) >= 0; edge++) {
            boolean isChord = next < chords.length && chords[next] == edge;
            next += isChord ? 1 : 0;
            DUE.equal("hasCounter(" + edge + ") of " + what, x.hasCounter(edge), isChord ? 1 : 0);
        }
    }

    private static void fallingWeightThenRisingNumber() {
        chords(Texts.configured("b4;e0,1,5;e1,2,5;e2,1,5;e2,3,5;"), "equal weights", 2, 3);
        chords(Texts.configured("b4;e0,1,5;e1,2,5;e2,1,6;e2,3,5;"), "the third heavier", 1, 3);
        chords(Texts.configured("b4;e0,1,5;e1,2,5;e2,1,6;e2,3,7;"), "the fourth heaviest", 0, 1);
        chords(Texts.configured("b4;e0,1,0;e1,2,0;e2,1,0;e2,3,0;"), "weights of 0", 2, 3);
        chords(Texts.configured("b4;e2,3,999;e0,1,998;e1,2,999;e2,1,999;"), "falling from 999", 1, 3);
        chords(Texts.configured("b4;e0,1,5;e1,3,5;e2,1,0;"), "the lightest edge joins last", 1);
        chords(Texts.configured("b3;a1;e0,1,0;a0;"), "abort edges are numbered in the text's order", 1, 2);
    }

    private static void returnEdgeJoinsFirst() {
        chords(Texts.configured("b2;e0,1,999;"), "one edge between entry and exit", 0);
        chords(Texts.configured("b2;e0,1,999;a0;e0,1,1;"), "edges between entry and exit", 0, 1, 2);
        chords(Texts.configured("b3;e0,2,999;e0,1,1;e1,2,2;"), "the heaviest edge from entry to exit", 0, 1);
    }

    private static void parallelEdges() {
        chords(Texts.configured("b3;e0,1,5;e0,1,6;e1,2,5;e0,1,6;"), "parallel edges", 0, 2, 3);
        chords(Texts.configured("b4;e1,2,9;e2,1,9;e0,1,1;e2,3,1;"), "edges there and back", 1, 3);
    }

    private static void setWeightFindsTheTreeAnew() {
        EdgeCounterPlacer x = Texts.configured("b4;e0,1,5;e1,2,5;e2,1,5;e2,3,5;");
        DUE.equal("setWeight(3, 6)", x.setWeight(3, 6), 5);
        chords(x, "setWeight(3, 6)", 1, 2);
        DUE.equal("weightOf(3)", x.weightOf(3), 6);
        DUE.equal("setWeight(2, 999)", x.setWeight(2, 999), 5);
        chords(x, "setWeight(2, 999)", 0, 1);
        DUE.equal("setWeight(2, 0)", x.setWeight(2, 0), 999);
        chords(x, "setWeight(2, 0)", 1, 2);
        DUE.equal("setWeight(2, 0) again", x.setWeight(2, 0), 0);
        chords(x, "setWeight(2, 0) again", 1, 2);
    }

    private static void setWeightStartsAnew() {
        EdgeCounterPlacer x = new EdgeCounterPlacer();
        x.setCounterLimit(1);
        x.drive(7, 101);
        DUE.equal("setWeight(0, 100)", x.setWeight(0, 100), 100);
        for (int edge = 0; edge < 8; edge++) {
            DUE.equal("trueCount(" + edge + ")", x.trueCount(edge), 0);
            DUE.equal("reconstruct(" + edge + ")", x.reconstruct(edge), 0);
        }
        DUE.equal("saturatedCount()", x.saturatedCount(), 0);
        DUE.equal("finishedRuns()", x.finishedRuns(), 0);
        DUE.equal("presentBlock()", x.presentBlock(), 0);
        DUE.equal("the limit stays", x.setCounterLimit(2), 1);
    }

    private static void setWeightRefuses() {
        EdgeCounterPlacer x = new EdgeCounterPlacer();
        x.follow(0);
        for (int edge : NO_EDGES) {
            DUE.equal("setWeight(" + edge + ", 5)", x.setWeight(edge, 5), INVALID);
        }
        for (int weight : new int[] {-1, 1000, Integer.MIN_VALUE, Integer.MAX_VALUE}) {
            DUE.equal("setWeight(3, " + weight + ")", x.setWeight(3, weight), INVALID);
        }
        DUE.equal("weightOf(3)", x.weightOf(3), 60);
        DUE.equal("presentBlock()", x.presentBlock(), 1);
        DUE.equal("undo() of follow alone", x.undo(), 0);
    }

    private static void costAndShare() {
        EdgeCounterPlacer x = new EdgeCounterPlacer();
        DUE.equal("placementCost()", x.placementCost(), 105);
        DUE.equal("costShareBits()", x.costShareBits(), Float.floatToIntBits(105f / 395f));
        x.setWeight(7, 9);
        DUE.equal("placementCost()", x.placementCost(), 104);
        DUE.equal("costShareBits()", x.costShareBits(), Float.floatToIntBits(104f / 394f));
        EdgeCounterPlacer all = Texts.configured("b2;e0,1,7;e0,1,8;");
        DUE.equal("placementCost() of chords alone", all.placementCost(), 15);
        DUE.equal("costShareBits() of chords alone", all.costShareBits(), 0x3f800000);
        EdgeCounterPlacer free = Texts.configured("b3;e0,1,7;a1;");
        DUE.equal("placementCost() of a free placement", free.placementCost(), 0);
        DUE.equal("costShareBits() of a free placement", free.costShareBits(), 0);
        EdgeCounterPlacer none = Texts.configured("b3;e0,1,0;a1;");
        DUE.equal("placementCost() without weights", none.placementCost(), 0);
        DUE.equal("costShareBits() without weights", none.costShareBits(), NOT_FOUND);
        EdgeCounterPlacer least = Texts.configured("b2;e0,1,1;");
        DUE.equal("costShareBits() of a sum of 1", least.costShareBits(), 0x3f800000);
        EdgeCounterPlacer most = Texts.configured("b2;" + "e0,1,999;".repeat(20));
        DUE.equal("placementCost() of the heaviest graph", most.placementCost(), 19980);
    }

    /** Shares of all lengths: the bits must be those of the division of two floats. */
    private static void shareBitsAreRounded() {
        EdgeCounterPlacer x = null;
        for (int weight = 0; weight < 400; weight++) {
            if (weight % 100 == 0) {
                x = Texts.configured("b3;e0,1,999;e0,1,0;e1,2,0;");
            }
            int light = weight * 7 % 1000;
            x.setWeight(1, light);
            float share = (float) light / (float) (999 + light);
            DUE.equal("costShareBits() of " + light, x.costShareBits(), Float.floatToIntBits(share));
        }
        EdgeCounterPlacer small = Texts.configured("b10;e0,1,999;e1,2,999;e2,3,999;e3,4,999;e4,5,999;"
            + "e5,6,999;e6,7,999;e7,8,999;e8,9,1;");
        DUE.equal("placementCost() of a small share", small.placementCost(), 1);
        DUE.equal("costShareBits() of a small share", small.costShareBits(), Float.floatToIntBits(1f / 7993f));
    }

    private static void coefficientsOfTheFirstGraph() {
        EdgeCounterPlacer x = new EdgeCounterPlacer();
        int[] trees = {0, 1, 2, 6};
        int[] chords = {3, 4, 5, 7};
        int[][] factors = {{0, 0, 1, 1}, {1, 0, 0, 0}, {0, 1, 1, 0}, {1, 1, 0, -1}};
        for (int t = 0; t < trees.length; t++) {
            for (int c = 0; c < chords.length; c++) {
                DUE.equal("coefficient(" + trees[t] + ", " + chords[c] + ")",
                    x.coefficient(trees[t], chords[c]), factors[t][c]);
            }
        }
    }

    private static void coefficientRefuses() {
        EdgeCounterPlacer x = new EdgeCounterPlacer();
        for (int edge : NO_EDGES) {
            DUE.equal("coefficient(" + edge + ", 3)", x.coefficient(edge, 3), INVALID);
            DUE.equal("coefficient(0, " + edge + ")", x.coefficient(0, edge), INVALID);
            DUE.equal("coefficient(3, " + edge + ")", x.coefficient(3, edge), INVALID);
            DUE.equal("coefficient(" + edge + ", 0)", x.coefficient(edge, 0), INVALID);
        }
        DUE.equal("coefficient of a chord in a chord", x.coefficient(3, 4), NOT_FOUND);
        DUE.equal("coefficient of a tree edge in a tree edge", x.coefficient(0, 1), NOT_FOUND);
        DUE.equal("coefficient of a tree edge in itself", x.coefficient(0, 0), NOT_FOUND);
        DUE.equal("coefficient of a tree edge in a chord", x.coefficient(3, 0), NOT_FOUND);
    }

    private static void dependentsOfTheFirstGraph() {
        EdgeCounterPlacer x = new EdgeCounterPlacer();
        int[] due = {NOT_FOUND, NOT_FOUND, NOT_FOUND, 3, 3, 3, NOT_FOUND, 3};
        for (int edge = 0; edge < due.length; edge++) {
            DUE.equal("dependents(" + edge + ")", x.dependents(edge), due[edge]);
        }
        EdgeCounterPlacer alone = Texts.configured("b2;e0,1,7;e0,1,8;");
        DUE.equal("dependents(0) where only the return edge needs it", alone.dependents(0), 1);
        EdgeCounterPlacer chain = Texts.configured("b4;e0,1,9;e1,2,9;e2,3,1;e2,1,1;");
        DUE.equal("dependents(2) at the end of a chain", chain.dependents(2), 3);
        DUE.equal("dependents(3) of a loop", chain.dependents(3), 2);
    }
}

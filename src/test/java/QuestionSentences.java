import java.util.function.ToIntBiFunction;

/** The sentences of the promises 13 to 29: the questions, which change nothing. */
final class QuestionSentences {
    private static final int INVALID = EdgeCounterPlacer.INVALID_ARGUMENT;
    private static final int NOT_FOUND = EdgeCounterPlacer.NOT_FOUND;
    private static final int UNCERTAIN = EdgeCounterPlacer.UNCERTAIN;
    private static final String CHAIN =
        "b10;e0,1,9;e1,2,9;e2,3,9;e3,4,9;e4,5,9;e5,6,9;e6,7,9;e7,8,9;e8,9,1;e8,1,1;";
    private static final String MOST_EDGES = "b3;e0,1,9;" + "e0,1,7;".repeat(17) + "a0;e1,2,8;";

    private final Sentences s;

    QuestionSentences(Sentences s) {
        this.s = s;
    }

    void look() {
        s.part("Promise 13");
        blockCount();
        s.part("Promise 14");
        sourceOf();
        s.part("Promise 15");
        targetOf();
        s.part("Promise 16");
        weightOf();
        s.part("Promise 17");
        hasCounter();
        s.part("Promise 18");
        counterCount();
        s.part("Promise 19");
        placementCost();
        s.part("Promise 20");
        costShareBits();
        s.part("Promise 21");
        counter();
        s.part("Promise 22");
        trueCount();
        s.part("Promise 23");
        reconstruct();
        s.part("Promise 24");
        coefficient();
        s.part("Promise 25");
        executions();
        s.part("Promise 26");
        dependents();
        s.part("Promise 27");
        saturatedCount();
        s.part("Promise 28");
        presentBlock();
        s.part("Promise 29");
        finishedRuns();
    }

    private void existingEdge(String name, int first, int last, ToIntBiFunction<EdgeCounterPlacer, Integer> question) {
        s.test("number of an existing edge", () -> {
            EdgeCounterPlacer x = Texts.configured(MOST_EDGES);
            s.equal(name + "(-1)", question.applyAsInt(x, -1), INVALID);
            s.equal(name + "(0)", question.applyAsInt(x, 0), first);
            s.equal(name + "(19)", question.applyAsInt(x, 19), last);
            s.equal(name + "(20)", question.applyAsInt(x, 20), INVALID);
        });
    }

    private void noSuchEdge(String name, ToIntBiFunction<EdgeCounterPlacer, Integer> question) {
        EdgeCounterPlacer x = new EdgeCounterPlacer();
        for (int edge : Sentences.NO_EDGES_OF_8) {
            s.equal(name + "(" + edge + ")", question.applyAsInt(x, edge), INVALID);
        }
        s.holds(name + "(7) is possible", question.applyAsInt(x, 7) != INVALID);
        Texts.put(x, "b2;a0;");
        x.configure();
        s.holds(name + "(0) is possible", question.applyAsInt(x, 0) != INVALID);
        s.equal(name + "(1), an edge of the graph before", question.applyAsInt(x, 1), INVALID);
    }

    private void noSuchEdgeSentence(String name, ToIntBiFunction<EdgeCounterPlacer, Integer> question) {
        s.test("INVALID_ARGUMENT if there is no such edge", () -> noSuchEdge(name, question));
    }

    private void answers(String name, EdgeCounterPlacer x, ToIntBiFunction<EdgeCounterPlacer, Integer> question, int... due) {
        for (int edge = 0; edge < due.length; edge++) {
            s.equal(name + "(" + edge + ")", question.applyAsInt(x, edge), due[edge]);
        }
    }

    // ---- Promises 13 to 17

    private void blockCount() {
        s.test("Returns the number of blocks.", () -> {
            s.equal("blockCount() of the first graph", new EdgeCounterPlacer().blockCount(), 6);
            s.equal("blockCount() of the smallest graph", Texts.configured("b2;a0;").blockCount(), 2);
            s.equal("blockCount() of the largest graph", Texts.configured(CHAIN).blockCount(), 10);
        });
    }

    private void sourceOf() {
        s.test("Returns the block from which an edge leads.", () ->
            answers("sourceOf", new EdgeCounterPlacer(), EdgeCounterPlacer::sourceOf, 0, 1, 1, 2, 3, 3, 4, 4));
        existingEdge("sourceOf", 0, 1, EdgeCounterPlacer::sourceOf);
        s.test("Returns its source block;", () ->
            answers("sourceOf", Texts.configured(CHAIN), EdgeCounterPlacer::sourceOf, 0, 1, 2, 3, 4, 5, 6, 7, 8, 8));
        noSuchEdgeSentence("sourceOf", EdgeCounterPlacer::sourceOf);
    }

    private void targetOf() {
        s.test("Returns the block to which an edge leads.", () ->
            answers("targetOf", new EdgeCounterPlacer(), EdgeCounterPlacer::targetOf, 1, 2, 3, 4, 4, 5, 1, 5));
        existingEdge("targetOf", 1, 2, EdgeCounterPlacer::targetOf);
        s.test("Returns its target block;", () ->
            answers("targetOf", Texts.configured(CHAIN), EdgeCounterPlacer::targetOf, 1, 2, 3, 4, 5, 6, 7, 8, 9, 1));
        noSuchEdgeSentence("targetOf", EdgeCounterPlacer::targetOf);
    }

    private void weightOf() {
        s.test("Returns the weight of an edge.", () ->
            answers("weightOf", new EdgeCounterPlacer(), EdgeCounterPlacer::weightOf, 100, 60, 40, 60, 35, 0, 90, 10));
        existingEdge("weightOf", 9, 8, EdgeCounterPlacer::weightOf);
        s.test("Returns its weight;", () -> {
            EdgeCounterPlacer x = Texts.configured("b3;e0,1,0;e0,1,999;a1;");
            answers("weightOf", x, EdgeCounterPlacer::weightOf, 0, 999, 0);
            x.setWeight(2, 999);
            x.setWeight(1, 0);
            answers("weightOf", x, EdgeCounterPlacer::weightOf, 0, 0, 999);
        });
        noSuchEdgeSentence("weightOf", EdgeCounterPlacer::weightOf);
    }

    private void hasCounter() {
        s.test("Tells whether an edge has a counter.", () ->
            answers("hasCounter", new EdgeCounterPlacer(), EdgeCounterPlacer::hasCounter, 0, 0, 0, 1, 1, 1, 0, 1));
        existingEdge("hasCounter", 0, 1, EdgeCounterPlacer::hasCounter);
        s.test("Returns 1 if the edge is a chord, 0 if it is in the tree;", () -> {
            answers("hasCounter", Texts.configured(CHAIN), EdgeCounterPlacer::hasCounter, 0, 0, 0, 0, 0, 0, 0, 0, 1, 1);
            answers("hasCounter", Texts.configured("b2;a0;"), EdgeCounterPlacer::hasCounter, 1);
        });
        noSuchEdgeSentence("hasCounter", EdgeCounterPlacer::hasCounter);
    }

    // ---- Promises 18 to 20

    private void counterCount() {
        s.test("Returns the number of counters.", () -> {
            s.equal("counterCount() of the first graph", new EdgeCounterPlacer().counterCount(), 4);
            s.equal("counterCount(), the least", Texts.configured("b2;a0;").counterCount(), 1);
            s.equal("counterCount(), the most", Texts.configured("b2;" + "e0,1,1;".repeat(20)).counterCount(), 20);
            s.equal("counterCount() of a chain", Texts.configured(CHAIN).counterCount(), 2);
            s.equal("counterCount() of three blocks", Texts.configured(MOST_EDGES).counterCount(), 19);
        });
    }

    private void placementCost() {
        s.test("Returns the sum of the weights of all edges that have a counter.", () -> {
            s.equal("placementCost() of the first graph", new EdgeCounterPlacer().placementCost(), 105);
            s.equal("placementCost(), the least", Texts.configured("b3;e0,1,999;a1;").placementCost(), 0);
            s.equal("placementCost(), the most", Texts.configured("b2;" + "e0,1,999;".repeat(20)).placementCost(), 19980);
            s.equal("placementCost() of a chain", Texts.configured(CHAIN).placementCost(), 2);
            s.equal("placementCost() of three blocks", Texts.configured(MOST_EDGES).placementCost(), 17 * 7 + 8);
        });
    }

    private void shareIs(String text, int cost, int sum) {
        EdgeCounterPlacer x = Texts.configured(text);
        s.equal("placementCost() of " + text, x.placementCost(), cost);
        s.equal("costShareBits() of " + text, x.costShareBits(), Float.floatToIntBits((float) cost / (float) sum));
    }

    private void costShareBits() {
        s.test("Returns the bits (Float.floatToIntBits) of placementCost() divided by the sum of the weights of all edges, "
            + "both as float;", () -> {
            shareIs("b6;e0,1,100;e1,2,60;e1,3,40;e2,4,60;e3,4,35;a3;e4,1,90;e4,5,10;", 105, 395);
            shareIs("b3;e0,1,999;a1;", 0, 999);
            shareIs("b2;e0,1,1;", 1, 1);
            shareIs("b2;" + "e0,1,999;".repeat(20), 19980, 19980);
            shareIs("b3;e0,1,1;e1,2,1;", 1, 2);
            shareIs("b3;e0,1,2;e1,2,1;", 1, 3);
            shareIs("b3;e0,1,999;e1,2,1;", 1, 1000);
            shareIs("b3;e0,1,999;e1,2,998;", 998, 1997);
            String heavyChain = "b10;e0,1,999;e1,2,999;e2,3,999;e3,4,999;e4,5,999;e5,6,999;e6,7,999;e7,8,999;";
            shareIs(heavyChain + "a8;", 0, 7992);
            shareIs(heavyChain + "e8,9,1;", 1, 7993);
            shareIs(heavyChain + "e8,9,999;e8,9,998;", 1997, 9989);
        });
        s.test("NOT_FOUND if that sum is 0.", () -> {
            s.equal("costShareBits() of a sum of 0", Texts.configured("b2;a0;e0,1,0;").costShareBits(), NOT_FOUND);
            s.equal("costShareBits() of a sum of 1", Texts.configured("b3;e0,1,1;a1;").costShareBits(), 0);
            EdgeCounterPlacer x = new EdgeCounterPlacer();
            s.equal("adoptCounts()", x.adoptCounts(), 7);
            s.equal("costShareBits() of no count", x.costShareBits(), NOT_FOUND);
            x.setWeight(7, 1);
            s.equal("costShareBits() of one tree edge's weight", x.costShareBits(), 0);
        });
    }

    // ---- Promises 21 to 23

    private static EdgeCounterPlacer driven() {
        EdgeCounterPlacer x = new EdgeCounterPlacer();
        for (int edge : new int[] {0, 1, 3, 6, 2, 4, 6, 1, 3, 7, 0, 2, 5, 0, 1}) {
            x.follow(edge);
        }
        return x;
    }

    private void counter() {
        s.test("Returns the value of a counter.", () ->
            answers("counter", driven(), EdgeCounterPlacer::counter, NOT_FOUND, NOT_FOUND, NOT_FOUND, 2, 1, 1, NOT_FOUND, 1));
        existingEdge("counter", NOT_FOUND, 0, EdgeCounterPlacer::counter);
        s.test("Returns the value of its counter;", () -> {
            EdgeCounterPlacer x = Texts.configured("b2;a0;");
            x.setCounterLimit(499);
            s.equal("counter(0) at first", x.counter(0), 0);
            x.drive(1, 498);
            s.equal("counter(0) below the limit", x.counter(0), 498);
            x.drive(1, 500);
            s.equal("counter(0) at the limit", x.counter(0), 499);
        });
        noSuchEdgeSentence("counter", EdgeCounterPlacer::counter);
        s.test("NOT_FOUND if the edge has no counter.", () -> {
            for (int edge = 0; edge < 8; edge++) {
                boolean isChord = edge == 3 || edge == 4 || edge == 5 || edge == 7;
                s.equal("counter(" + edge + ")", new EdgeCounterPlacer().counter(edge), isChord ? 0 : NOT_FOUND);
            }
        });
    }

    private void trueCount() {
        s.test("Returns the true count of an edge.", () ->
            answers("trueCount", driven(), EdgeCounterPlacer::trueCount, 3, 3, 2, 2, 1, 1, 2, 1));
        existingEdge("trueCount", 0, 0, EdgeCounterPlacer::trueCount);
        s.test("Returns its true count;", () -> {
            EdgeCounterPlacer x = Texts.configured("b2;a0;");
            for (int call = 0; call < 500; call++) {
                x.drive(call, 500);
            }
            s.equal("trueCount(0), above every limit", x.trueCount(0), 250000);
            s.equal("counter(0)", x.counter(0), 60000);
            s.equal("finishedRuns()", x.finishedRuns(), 250000);
        });
        noSuchEdgeSentence("trueCount", EdgeCounterPlacer::trueCount);
    }

    private void reconstruct() {
        s.test("Returns the reconstructed count of an edge.", () ->
            answers("reconstruct", driven(), EdgeCounterPlacer::reconstruct, 3, 3, 2, 2, 1, 1, 2, 1));
        existingEdge("reconstruct", 0, 0, EdgeCounterPlacer::reconstruct);
        s.test("Returns the reconstructed count;", () -> {
            answers("reconstruct", new EdgeCounterPlacer(), EdgeCounterPlacer::reconstruct, 0, 0, 0, 0, 0, 0, 0, 0);
            EdgeCounterPlacer x = Texts.configured(CHAIN);
            s.follow(x, 0, 1, 2, 3, 4, 5, 6, 7, 9, 1);
            answers("reconstruct", x, EdgeCounterPlacer::reconstruct, 1, 2, 1, 1, 1, 1, 1, 1, 0, 1);
        });
        noSuchEdgeSentence("reconstruct", EdgeCounterPlacer::reconstruct);
        s.test("UNCERTAIN if it is uncertain.", () -> {
            EdgeCounterPlacer x = Texts.configured(CHAIN);
            x.setCounterLimit(2);
            s.follow(x, 0, 1, 2, 3, 4, 5, 6, 7, 9, 1, 2, 3, 4, 5, 6, 7);
            answers("reconstruct", x, EdgeCounterPlacer::reconstruct, 1, 2, 2, 2, 2, 2, 2, 2, 0, 1);
            s.follow(x, 9);
            answers("reconstruct", x, EdgeCounterPlacer::reconstruct, 1, UNCERTAIN, UNCERTAIN, UNCERTAIN, UNCERTAIN,
                UNCERTAIN, UNCERTAIN, UNCERTAIN, 0, UNCERTAIN);
        });
    }

    // ---- Promises 24 to 26

    private void coefficient() {
        s.test("Returns the coefficient of a chord in a tree edge.", () -> {
            EdgeCounterPlacer x = new EdgeCounterPlacer();
            int[][] due = {{0, 0, 1, 1}, {1, 0, 0, 0}, {0, 1, 1, 0}, {1, 1, 0, -1}};
            int[] trees = {0, 1, 2, 6};
            int[] chords = {3, 4, 5, 7};
            for (int t = 0; t < 4; t++) {
                for (int c = 0; c < 4; c++) {
                    s.equal("coefficient(" + trees[t] + ", " + chords[c] + ")", x.coefficient(trees[t], chords[c]), due[t][c]);
                }
            }
        });
        s.test("number of an existing edge", () -> {
            EdgeCounterPlacer x = Texts.configured(MOST_EDGES);
            s.equal("coefficient(0, 19)", x.coefficient(0, 19), 1);
            s.equal("coefficient(0, 17)", x.coefficient(0, 17), -1);
            s.equal("coefficient(0, 18)", x.coefficient(0, 18), 0);
            s.equal("coefficient(0, 20)", x.coefficient(0, 20), INVALID);
            s.equal("coefficient(-1, 19)", x.coefficient(-1, 19), INVALID);
            EdgeCounterPlacer last = Texts.configured("b3;a1;" + "e0,1,7;".repeat(18) + "e0,1,8;");
            s.equal("coefficient(19, 0)", last.coefficient(19, 0), 1);
            s.equal("coefficient(19, 18)", last.coefficient(19, 18), -1);
            s.equal("coefficient(20, 0)", last.coefficient(20, 0), INVALID);
            s.equal("coefficient(19, -1)", last.coefficient(19, -1), INVALID);
        });
        s.test("Returns -1, 0 or 1;", () -> {
            EdgeCounterPlacer x = new EdgeCounterPlacer();
            s.equal("coefficient(6, 7)", x.coefficient(6, 7), -1);
            s.equal("coefficient(6, 5)", x.coefficient(6, 5), 0);
            s.equal("coefficient(6, 4)", x.coefficient(6, 4), 1);
        });
        s.test("INVALID_ARGUMENT if there is no such tree edge or chord;", () -> {
            noSuchEdge("coefficient of chord 0, 3 or 7 in", (x, edge) -> x.coefficient(edge, 0));
            noSuchEdge("coefficient in edge 0 of", (x, edge) -> x.coefficient(0, edge));
            EdgeCounterPlacer x = new EdgeCounterPlacer();
            for (int edge : Sentences.NO_EDGES_OF_8) {
                s.equal("coefficient(" + edge + ", 3)", x.coefficient(edge, 3), INVALID);
                s.equal("coefficient(3, " + edge + ")", x.coefficient(3, edge), INVALID);
            }
        });
        s.test("NOT_FOUND if treeEdge is not in the tree or chord is not a chord.", () -> {
            EdgeCounterPlacer x = new EdgeCounterPlacer();
            for (int treeEdge = 0; treeEdge < 8; treeEdge++) {
                for (int chord = 0; chord < 8; chord++) {
                    boolean found = x.hasCounter(treeEdge) == 0 && x.hasCounter(chord) == 1;
                    boolean answered = x.coefficient(treeEdge, chord) != NOT_FOUND;
                    s.holds("coefficient(" + treeEdge + ", " + chord + ") is found: " + found, answered == found);
                }
            }
        });
    }

    private void executions() {
        s.test("Returns how often a block was entered according to the counters: the sum of the reconstructed counts of all "
            + "edges that lead to the block.", () -> {
            answers("executions", driven(), EdgeCounterPlacer::executions, 3, 5, 3, 2, 3, 2);
            EdgeCounterPlacer x = Texts.configured("b2;" + "e0,1,1;".repeat(20));
            x.drive(3, 500);
            s.equal("executions(1) by 20 edges", x.executions(1), 500);
        });
        s.test("0 to n - 1", () -> {
            EdgeCounterPlacer x = Texts.configured(CHAIN);
            s.equal("executions(-1)", x.executions(-1), INVALID);
            s.equal("executions(0)", x.executions(0), 0);
            s.equal("executions(9)", x.executions(9), 0);
            s.equal("executions(10)", x.executions(10), INVALID);
            EdgeCounterPlacer least = Texts.configured("b2;a0;");
            s.equal("executions(1)", least.executions(1), 0);
            s.equal("executions(2)", least.executions(2), INVALID);
        });
        s.test("Returns that sum; for the entry, which no such edge leads to, the number of finished runs, plus 1 if the "
            + "present block of the run is not the entry;", () -> {
            EdgeCounterPlacer x = new EdgeCounterPlacer();
            int[] way = {0, 2, 5, 0, 2, 4, 7, 0};
            int[] entries = {1, 1, 1, 2, 2, 2, 2, 3};
            int[] exits = {0, 0, 1, 1, 1, 1, 2, 2};
            s.equal("executions(0) of a new object", x.executions(0), 0);
            for (int step = 0; step < way.length; step++) {
                s.follow(x, way[step]);
                s.equal("executions(0) after step " + step, x.executions(0), entries[step]);
                s.equal("executions(5) after step " + step, x.executions(5), exits[step]);
            }
            x.setCounterLimit(1);
            s.follow(x, 0, 2, 4, 7, 0, 2, 5, 0);
            s.equal("executions(0) with saturated counters", x.executions(0), 3);
        });
        s.test("INVALID_ARGUMENT if block is out of range;", () -> {
            EdgeCounterPlacer x = new EdgeCounterPlacer();
            for (int block : new int[] {6, 7, 10, 32, 38, -1, -6, -32, Integer.MIN_VALUE, Integer.MAX_VALUE}) {
                s.equal("executions(" + block + ")", x.executions(block), INVALID);
            }
            s.equal("executions(5)", x.executions(5), 0);
        });
        s.test("UNCERTAIN if the reconstructed count of any edge that leads to the block is uncertain.", () -> {
            EdgeCounterPlacer x = new EdgeCounterPlacer();
            x.setCounterLimit(1);
            s.follow(x, 0, 1, 3);
            answers("executions", x, EdgeCounterPlacer::executions, 1, UNCERTAIN, UNCERTAIN, 0, UNCERTAIN, 0);
            // Of two edges to the exit one alone is uncertain, the first or the second.
            for (int edge = 0; edge < 2; edge++) {
                EdgeCounterPlacer two = Texts.configured("b2;e0,1,1;e0,1,1;");
                two.setCounterLimit(2);
                s.follow(two, edge);
                s.equal("executions(1) below the limit", two.executions(1), 1);
                s.follow(two, edge);
                s.equal("executions(1) at the limit of edge " + edge, two.executions(1), UNCERTAIN);
                s.equal("executions(0)", two.executions(0), 2);
            }
        });
    }

    private void dependents() {
        s.test("Counts the edges whose reconstructed counts need a counter.", () ->
            answers("dependents", new EdgeCounterPlacer(), EdgeCounterPlacer::dependents,
                NOT_FOUND, NOT_FOUND, NOT_FOUND, 3, 3, 3, NOT_FOUND, 3));
        existingEdge("dependents", NOT_FOUND, 2, EdgeCounterPlacer::dependents);
        s.test("Returns 1 (for the chord itself) plus the number of numbered tree edges in which the coefficient of the chord "
            + "is not 0 (the return edge is not counted);", () -> {
            s.equal("dependents(0), the least", Texts.configured("b2;a0;").dependents(0), 1);
            EdgeCounterPlacer chain = Texts.configured(CHAIN);
            s.equal("dependents(8), the most, and the return edge", chain.dependents(8), 9);
            s.equal("dependents(9), a loop", chain.dependents(9), 8);
            // A chord beside a tree edge has the coefficient -1 in it.
            s.equal("dependents(1)", Texts.configured("b3;e0,1,2;e0,1,1;a1;").dependents(1), 2);
        });
        noSuchEdgeSentence("dependents", EdgeCounterPlacer::dependents);
        s.test("NOT_FOUND if the edge is not a chord.", () -> {
            EdgeCounterPlacer x = new EdgeCounterPlacer();
            for (int edge = 0; edge < 8; edge++) {
                boolean isChord = x.hasCounter(edge) == 1;
                s.holds("dependents(" + edge + ") is found: " + isChord, (x.dependents(edge) != NOT_FOUND) == isChord);
            }
        });
    }

    // ---- Promises 27 to 29

    private void saturatedCount() {
        s.test("Returns the number of saturated counters.", () -> {
            EdgeCounterPlacer x = Texts.configured("b2;" + "e0,1,1;".repeat(20));
            x.setCounterLimit(2);
            for (int edge = 0; edge < 20; edge++) {
                s.equal("saturatedCount()", x.saturatedCount(), edge);
                s.follow(x, edge);
                s.equal("saturatedCount() below the limit", x.saturatedCount(), edge);
                s.follow(x, edge);
            }
            s.equal("saturatedCount() of all", x.saturatedCount(), 20);
            EdgeCounterPlacer tree = Texts.configured("b3;e0,1,1;a1;");
            tree.setCounterLimit(1);
            s.follow(tree, 0);
            s.equal("saturatedCount() without tree edges", tree.saturatedCount(), 0);
            s.follow(tree, 1);
            s.equal("saturatedCount()", tree.saturatedCount(), 1);
        });
    }

    private void presentBlock() {
        s.test("Returns the present block of the run, which is never the exit.", () -> {
            EdgeCounterPlacer x = Texts.configured(CHAIN);
            int[] blocks = {1, 2, 3, 4, 5, 6, 7, 8, 0};
            s.equal("presentBlock() at first", x.presentBlock(), 0);
            for (int edge = 0; edge < 9; edge++) {
                s.follow(x, edge);
                s.equal("presentBlock()", x.presentBlock(), blocks[edge]);
            }
            for (int seed = 0; seed < 100; seed++) {
                x.drive(seed, 1 + seed % 9);
                s.holds("presentBlock() is not the exit", x.presentBlock() >= 0 && x.presentBlock() < 9);
            }
        });
    }

    private void finishedRuns() {
        s.test("Returns the number of finished runs.", () -> {
            EdgeCounterPlacer x = new EdgeCounterPlacer();
            s.equal("finishedRuns() at first", x.finishedRuns(), 0);
            s.follow(x, 0, 2);
            s.equal("finishedRuns() of an open run", x.finishedRuns(), 0);
            s.follow(x, 5);
            s.equal("finishedRuns() of one run", x.finishedRuns(), 1);
            s.equal("drive(1, 100)", x.drive(1, 100), 20);
            s.equal("finishedRuns() of both calls", x.finishedRuns(), 21);
            s.equal("undo()", x.undo(), 3);
            s.equal("finishedRuns() without the second", x.finishedRuns(), 1);
        });
    }
}

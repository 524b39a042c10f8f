import java.math.BigInteger;

/** The sentences of the promises 1 and 7 to 12: the constructor and the calls that change something. */
final class ChangeSentences {
    private static final int INVALID = EdgeCounterPlacer.INVALID_ARGUMENT;
    private static final int NOT_POSSIBLE = EdgeCounterPlacer.NOT_POSSIBLE;
    private static final int NOT_FOUND = EdgeCounterPlacer.NOT_FOUND;
    private static final int UNCERTAIN = EdgeCounterPlacer.UNCERTAIN;
    private static final int LEAST = Integer.MIN_VALUE;
    private static final int MOST = Integer.MAX_VALUE;
    private static final String FIRST_TEXT = "b6;e0,1,100;e1,2,60;e1,3,40;e2,4,60;e3,4,35;a3;e4,1,90;e4,5,10;";

    private final Sentences s;

    ChangeSentences(Sentences s) {
        this.s = s;
    }

    void look() {
        s.part("Promise 1");
        newObject();
        s.part("Promise 7");
        setWeight();
        s.part("Promise 8");
        setCounterLimit();
        s.part("Promise 9");
        follow();
        s.part("Promise 10");
        generator();
        chosenEdges();
        driveAnswers();
        s.part("Promise 11");
        adoptCounts();
        s.part("Promise 12");
        undo();
    }

    private void newObject() {
        s.test("Creates a placer with the graph of the text \"" + FIRST_TEXT + "\" as if it had been configured, and with an "
            + "empty graph text.", () -> {
            EdgeCounterPlacer x = new EdgeCounterPlacer();
            s.same("the state", State.of(x), State.of(Texts.configured(FIRST_TEXT)));
            int[][] stated = {{0, 1, 100}, {1, 2, 60}, {1, 3, 40}, {2, 4, 60}, {3, 4, 35}, {3, 5, 0}, {4, 1, 90}, {4, 5, 10}};
            for (int edge = 0; edge < 8; edge++) {
                s.equal("sourceOf(" + edge + ")", x.sourceOf(edge), stated[edge][0]);
                s.equal("targetOf(" + edge + ")", x.targetOf(edge), stated[edge][1]);
                s.equal("weightOf(" + edge + ")", x.weightOf(edge), stated[edge][2]);
            }
            s.equal("weightOf(8)", x.weightOf(8), INVALID);
            s.equal("blockCount()", x.blockCount(), 6);
            s.chords(x, 3, 4, 5, 7);
            s.startsAnew(x);
            s.equal("undo()", x.undo(), NOT_POSSIBLE);
            s.equal("firstError()", x.firstError(), NOT_FOUND);
            s.equal("errorReason()", x.errorReason(), NOT_FOUND);
            s.equal("configure()", x.configure(), NOT_POSSIBLE);
            s.equal("clearText()", x.clearText(), 0);
            s.equal("append", x.append('b'), 1);
            s.equal("setCounterLimit(1)", x.setCounterLimit(1), 60000);
        });
    }

    // ---- Promises 7 to 9

    private static EdgeCounterPlacer fullGraph() {
        return Texts.configured("b3;" + "e0,1,7;".repeat(18) + "a0;e1,2,8;");
    }

    private void setWeight() {
        s.test("Sets the weight of an edge.", () -> {
            EdgeCounterPlacer x = new EdgeCounterPlacer();
            x.setWeight(5, 41);
            int[] weights = {100, 60, 40, 60, 35, 41, 90, 10};
            for (int edge = 0; edge < 8; edge++) {
                s.equal("weightOf(" + edge + ")", x.weightOf(edge), weights[edge]);
            }
            s.chords(x, 2, 3, 4, 7);
        });
        s.test("number of an existing edge", () -> {
            EdgeCounterPlacer x = fullGraph();
            s.equal("setWeight(-1, 5)", x.setWeight(-1, 5), INVALID);
            s.equal("setWeight(0, 5)", x.setWeight(0, 5), 7);
            s.equal("setWeight(19, 5)", x.setWeight(19, 5), 8);
            s.equal("setWeight(20, 5)", x.setWeight(20, 5), INVALID);
        });
        s.test("0 to 999", () -> {
            EdgeCounterPlacer x = new EdgeCounterPlacer();
            s.equal("setWeight(3, -1)", x.setWeight(3, -1), INVALID);
            s.equal("setWeight(3, 0)", x.setWeight(3, 0), 60);
            s.equal("setWeight(3, 999)", x.setWeight(3, 999), 0);
            s.equal("setWeight(3, 1000)", x.setWeight(3, 1000), INVALID);
            s.equal("weightOf(3)", x.weightOf(3), 999);
        });
        s.test("Returns the previous weight;", () -> {
            EdgeCounterPlacer x = new EdgeCounterPlacer();
            s.equal("setWeight(5, 999)", x.setWeight(5, 999), 0);
            s.equal("setWeight(5, 999)", x.setWeight(5, 999), 999);
            s.equal("setWeight(5, 0)", x.setWeight(5, 0), 999);
            s.equal("setWeight(5, 1)", x.setWeight(5, 1), 0);
        });
        s.test("INVALID_ARGUMENT if edge or weight is out of range.", () -> {
            EdgeCounterPlacer x = new EdgeCounterPlacer();
            for (int edge : Sentences.NO_EDGES_OF_8) {
                s.equal("setWeight(" + edge + ", 5)", x.setWeight(edge, 5), INVALID);
                s.equal("setWeight(" + edge + ", 1000)", x.setWeight(edge, 1000), INVALID);
            }
            for (int weight : new int[] {-1, -1000, 1000, 65536, LEAST, MOST}) {
                s.equal("setWeight(0, " + weight + ")", x.setWeight(0, weight), INVALID);
            }
            s.equal("weightOf(0)", x.weightOf(0), 100);
            // An edge that the graph before had is no edge any more.
            Texts.put(x, "b2;a0;");
            x.configure();
            s.equal("setWeight(1, 5)", x.setWeight(1, 5), INVALID);
            s.equal("setWeight(0, 5)", x.setWeight(0, 5), 0);
        });
    }

    private void setCounterLimit() {
        s.test("Sets the counter limit.", () -> {
            EdgeCounterPlacer x = Texts.configured("b2;a0;");
            x.setCounterLimit(3);
            x.drive(0, 5);
            s.equal("counter(0)", x.counter(0), 3);
            x.setCounterLimit(4);
            x.drive(0, 5);
            s.equal("counter(0)", x.counter(0), 4);
        });
        s.test("1 to 60000", () -> {
            EdgeCounterPlacer x = new EdgeCounterPlacer();
            s.equal("setCounterLimit(0)", x.setCounterLimit(0), INVALID);
            s.equal("setCounterLimit(1)", x.setCounterLimit(1), 60000);
            s.equal("setCounterLimit(60000)", x.setCounterLimit(60000), 1);
            s.equal("setCounterLimit(60001)", x.setCounterLimit(60001), INVALID);
        });
        s.test("Returns the previous limit;", () -> {
            EdgeCounterPlacer x = new EdgeCounterPlacer();
            s.equal("setCounterLimit(60000)", x.setCounterLimit(60000), 60000);
            s.equal("setCounterLimit(1)", x.setCounterLimit(1), 60000);
            s.equal("setCounterLimit(1)", x.setCounterLimit(1), 1);
            s.equal("setCounterLimit(59999)", x.setCounterLimit(59999), 1);
            s.equal("setCounterLimit(2)", x.setCounterLimit(2), 59999);
        });
        s.test("INVALID_ARGUMENT if limit is out of range.", () -> {
            EdgeCounterPlacer x = new EdgeCounterPlacer();
            x.setCounterLimit(17);
            for (int limit : new int[] {0, -1, -60000, 60001, 65536, 65537, LEAST, MOST}) {
                s.equal("setCounterLimit(" + limit + ")", x.setCounterLimit(limit), INVALID);
            }
            s.equal("the limit stays", x.setCounterLimit(1), 17);
        });
    }

    private void follow() {
        s.test("Lets the run follow an edge.", () -> {
            EdgeCounterPlacer x = new EdgeCounterPlacer();
            s.follow(x, 0, 2, 4);
            int[] counts = {1, 0, 1, 0, 1, 0, 0, 0};
            for (int edge = 0; edge < 8; edge++) {
                s.equal("trueCount(" + edge + ")", x.trueCount(edge), counts[edge]);
            }
            s.equal("presentBlock()", x.presentBlock(), 4);
        });
        s.test("number of an existing edge", () -> {
            EdgeCounterPlacer x = fullGraph();
            s.equal("follow(-1)", x.follow(-1), INVALID);
            s.equal("follow(0)", x.follow(0), 1);
            s.equal("follow(19)", x.follow(19), 0);
            s.equal("follow(20)", x.follow(20), INVALID);
        });
        s.test("Returns the present block afterwards (0 if the edge leads to the exit, since the next run starts at the "
            + "entry);", () -> {
            EdgeCounterPlacer x = Texts.configured("b10;e0,8,1;e8,1,1;e1,9,1;a0;a2;a3;a4;a5;a6;a7;");
            s.equal("follow(0)", x.follow(0), 8);
            s.equal("follow(1)", x.follow(1), 1);
            s.equal("follow(2) to the exit", x.follow(2), 0);
            s.equal("follow(3) to the exit from the entry", x.follow(3), 0);
            s.equal("follow(0) in the next run", x.follow(0), 8);
        });
        s.test("INVALID_ARGUMENT if there is no such edge;", () -> {
            EdgeCounterPlacer x = new EdgeCounterPlacer();
            for (int edge : Sentences.NO_EDGES_OF_8) {
                s.equal("follow(" + edge + ")", x.follow(edge), INVALID);
            }
            Texts.put(x, "b2;a0;");
            x.configure();
            s.equal("follow(1), an edge of the graph before", x.follow(1), INVALID);
        });
        s.test("NOT_POSSIBLE if the edge does not lead from the present block.", () -> {
            int[] sources = {0, 1, 1, 2, 3, 3, 4, 4};
            int[][] ways = {{}, {0}, {0, 1}, {0, 2}, {0, 1, 3}};
            for (int block = 0; block < 5; block++) {
                for (int edge = 0; edge < 8; edge++) {
                    EdgeCounterPlacer x = new EdgeCounterPlacer();
                    s.follow(x, ways[block]);
                    String call = "follow(" + edge + ") in block " + block;
                    if (sources[edge] == block) {
                        s.holds(call, x.follow(edge) >= 0);
                    } else {
                        s.equal(call, x.follow(edge), NOT_POSSIBLE);
                        s.equal("presentBlock() after " + call, x.presentBlock(), block);
                    }
                }
            }
        });
    }

    // ---- Promise 10

    private static int r(int seed, int step) {
        BigInteger x = BigInteger.valueOf(7919).multiply(BigInteger.valueOf(seed))
            .add(BigInteger.valueOf(6151).multiply(BigInteger.valueOf(step))).add(BigInteger.ONE);
        return x.multiply(x).mod(BigInteger.valueOf(65521)).intValue();
    }

    /** By 20 edges from the entry to the exit each step tells r mod 20. */
    private void driveTells(int seed, int steps) {
        EdgeCounterPlacer x = Texts.configured("b2;" + "e0,1,1;".repeat(20));
        int[] counts = new int[20];
        for (int step = 0; step < steps; step++) {
            counts[r(seed, step) % 20]++;
        }
        String call = "drive(" + seed + ", " + steps + ")";
        s.equal(call, x.drive(seed, steps), steps);
        for (int edge = 0; edge < 20; edge++) {
            s.equal("trueCount(" + edge + ") after " + call, x.trueCount(edge), counts[edge]);
        }
    }

    private void generator() {
        s.test("Lets the run follow edges that a generator chooses.", () -> {
            for (int seed = 1; seed < 10000; seed += 666) {
                driveTells(seed, 40);
            }
        });
        s.test("For step k (from 0), let x be 7919 * seed + 6151 * k + 1 and r be (x * x) mod 65521, computed without "
            + "overflow.", () -> {
            EdgeCounterPlacer x = Texts.configured("b2;" + "e0,1,1;".repeat(20));
            x.drive(0, 1);
            s.equal("trueCount(1) after drive(0, 1), where x is 1", x.trueCount(1), 1);
            x.drive(0, 1);
            s.equal("trueCount(1), since k is 0 in each call", x.trueCount(1), 2);
            driveTells(0, 1);
            driveTells(0, 2);
            driveTells(0, 500);
            driveTells(1, 500);
            // From x = 46341 on x * x is greater than an int.
            driveTells(5, 2);
            driveTells(6, 1);
            driveTells(8, 1);
            driveTells(9999, 1);
            driveTells(9999, 499);
            driveTells(9999, 500);
            driveTells(9998, 500);
        });
    }

    private void chosenEdges() {
        s.test("If the present block has m edges that lead from it, the run follows the one with index r mod m among them, "
            + "in the order of rising numbers.", () -> {
            EdgeCounterPlacer one = Texts.configured("b4;e1,2,1;e0,1,1;e2,1,1;");
            s.equal("drive(7, 499) where m is 1", one.drive(7, 499), 0);
            s.equal("trueCount(0)", one.trueCount(0), 249);
            s.equal("trueCount(1)", one.trueCount(1), 1);
            s.equal("trueCount(2)", one.trueCount(2), 249);
            // Block 0 has the edges 1, 3 and 6, block 1 the edges 0, 2, 4 and 5.
            int[][] leaving = {{1, 3, 6}, {0, 2, 4, 5}};
            EdgeCounterPlacer x = Texts.configured("b3;e1,2,1;e0,1,9;a1;a0;e1,2,5;e1,2,1;e0,1,1;");
            int[] counts = new int[7];
            int present = 0;
            for (int seed = 40; seed < 60; seed++) {
                for (int step = 0; step < 25; step++) {
                    int edge = leaving[present][r(seed, step) % leaving[present].length];
                    counts[edge]++;
                    present = present == 0 && edge != 3 ? 1 : 0;
                }
                x.drive(seed, 25);
                s.equal("presentBlock()", x.presentBlock(), present);
                for (int edge = 0; edge < 7; edge++) {
                    s.equal("trueCount(" + edge + ")", x.trueCount(edge), counts[edge]);
                }
            }
        });
    }

    private void driveAnswers() {
        s.test("0 to 9999", () -> {
            EdgeCounterPlacer x = new EdgeCounterPlacer();
            s.equal("drive(-1, 1)", x.drive(-1, 1), INVALID);
            s.equal("drive(0, 1)", x.drive(0, 1), 0);
            s.equal("presentBlock()", x.presentBlock(), 1);
            s.holds("drive(9999, 1) is possible", x.drive(9999, 1) == 0 && x.presentBlock() != 1);
            s.equal("drive(10000, 1)", x.drive(10000, 1), INVALID);
        });
        s.test("1 to 500", () -> {
            EdgeCounterPlacer x = Texts.configured("b2;a0;");
            s.equal("drive(1, 0)", x.drive(1, 0), INVALID);
            s.equal("drive(1, 1)", x.drive(1, 1), 1);
            s.equal("drive(1, 500)", x.drive(1, 500), 500);
            s.equal("drive(1, 501)", x.drive(1, 501), INVALID);
            s.equal("trueCount(0)", x.trueCount(0), 501);
        });
        s.test("Returns the number of runs that were finished in this call;", () -> {
            EdgeCounterPlacer x = Texts.configured("b3;e0,1,1;a1;");
            s.equal("drive(1, 1)", x.drive(1, 1), 0);
            s.equal("drive(1, 1), which ends the run of the call before", x.drive(1, 1), 1);
            s.equal("drive(1, 3)", x.drive(1, 3), 1);
            s.equal("drive(1, 1)", x.drive(1, 1), 1);
            s.equal("drive(1, 500)", x.drive(1, 500), 250);
            s.equal("finishedRuns()", x.finishedRuns(), 253);
        });
        s.test("INVALID_ARGUMENT if seed or steps is out of range.", () -> {
            EdgeCounterPlacer x = new EdgeCounterPlacer();
            for (int seed : new int[] {-1, -9999, 10000, 65536, LEAST, MOST}) {
                s.equal("drive(" + seed + ", 1)", x.drive(seed, 1), INVALID);
                s.equal("drive(" + seed + ", 0)", x.drive(seed, 0), INVALID);
            }
            for (int steps : new int[] {0, -1, -500, 501, 65536, LEAST, MOST}) {
                s.equal("drive(1, " + steps + ")", x.drive(1, steps), INVALID);
            }
            s.equal("presentBlock()", x.presentBlock(), 0);
        });
    }

    // ---- Promises 11 and 12

    private void adoptCounts() {
        s.test("Makes the reconstructed counts the weights: the weight of every edge becomes the smaller of its "
            + "reconstructed count and 999.", () -> {
            // Edge 0 is in the tree and edge 1 is a chord; both have the same count.
            for (int runs = 998; runs <= 1000; runs++) {
                EdgeCounterPlacer x = Texts.configured("b3;e0,1,7;e1,2,5;");
                x.drive(1, 500);
                x.drive(1, 500);
                x.drive(1, 500);
                x.drive(1, 2 * runs - 1500);
                s.equal("reconstruct(0)", x.reconstruct(0), runs);
                s.equal("adoptCounts()", x.adoptCounts(), 2);
                s.equal("weightOf(0) by " + runs + " runs", x.weightOf(0), Math.min(runs, 999));
                s.equal("weightOf(1) by " + runs + " runs", x.weightOf(1), Math.min(runs, 999));
            }
            EdgeCounterPlacer open = new EdgeCounterPlacer();
            s.follow(open, 0, 1, 3, 6, 2);
            s.equal("adoptCounts() of an open run", open.adoptCounts(), 7);
            int[] weights = {1, 1, 1, 1, 0, 0, 1, 0};
            for (int edge = 0; edge < 8; edge++) {
                s.equal("weightOf(" + edge + ")", open.weightOf(edge), weights[edge]);
            }
        });
        s.test("The tree is then found anew, also if all weights stay as they were.", () -> {
            EdgeCounterPlacer x = Texts.configured("b3;e0,1,9;e0,1,8;a1;");
            s.follow(x, 1, 2, 1, 2);
            s.equal("adoptCounts()", x.adoptCounts(), 3);
            s.chords(x, 0, 2);
            s.follow(x, 1, 2, 1, 2);
            s.equal("adoptCounts() of the same counts", x.adoptCounts(), 0);
            s.chords(x, 0, 2);
            s.startsAnew(x);
            s.equal("undo()", x.undo(), 3);
            s.equal("trueCount(1)", x.trueCount(1), 2);
        });
        s.test("Returns the number of edges whose weight has changed;", () -> {
            s.equal("none", Texts.configured("b2;a0;e0,1,0;").adoptCounts(), 0);
            s.equal("all of 20", Texts.configured("b2;" + "e0,1,1;".repeat(20)).adoptCounts(), 20);
            s.equal("the first of 20", Texts.configured("b2;e0,1,1;" + "e0,1,0;".repeat(19)).adoptCounts(), 1);
            s.equal("the last of 20", Texts.configured("b2;" + "e0,1,0;".repeat(19) + "e0,1,1;").adoptCounts(), 1);
            EdgeCounterPlacer x = Texts.configured("b2;e0,1,999;");
            x.drive(1, 500);
            x.drive(1, 500);
            s.equal("a count of 1000 for a weight of 999", x.adoptCounts(), 0);
            x.drive(1, 500);
            x.drive(1, 498);
            s.equal("a count of 998 for a weight of 999", x.adoptCounts(), 1);
        });
        s.test("UNCERTAIN if the reconstructed count of any edge is uncertain.", () -> {
            for (int edge = 0; edge < 20; edge++) {
                EdgeCounterPlacer x = Texts.configured("b2;" + "e0,1,1;".repeat(20));
                x.setCounterLimit(2);
                s.follow(x, edge);
                s.holds("adoptCounts() below the limit", x.adoptCounts() >= 0);
                s.follow(x, edge, edge);
                s.equal("adoptCounts() where edge " + edge + " alone is uncertain", x.adoptCounts(), UNCERTAIN);
                s.equal("trueCount(" + edge + ")", x.trueCount(edge), 2);
            }
        });
    }

    private void undo() {
        s.test("Undoes the newest change.", () -> {
            EdgeCounterPlacer x = new EdgeCounterPlacer();
            x.setWeight(0, 1);
            x.setWeight(0, 2);
            x.setWeight(1, 3);
            x.undo();
            s.equal("weightOf(1)", x.weightOf(1), 60);
            s.equal("weightOf(0)", x.weightOf(0), 2);
            x.undo();
            s.equal("weightOf(0)", x.weightOf(0), 1);
            x.setWeight(0, 4);
            x.undo();
            s.equal("weightOf(0)", x.weightOf(0), 1);
            x.undo();
            s.equal("weightOf(0)", x.weightOf(0), 100);
        });
        s.test("Returns the number of changes that can still be undone;", () -> {
            for (int changes = 1; changes <= 9; changes++) {
                EdgeCounterPlacer x = new EdgeCounterPlacer();
                for (int change = 0; change < changes; change++) {
                    x.setWeight(0, change);
                }
                for (int left = Math.min(changes, 4) - 1; left >= 0; left--) {
                    s.equal("undo() of " + changes + " changes", x.undo(), left);
                }
                s.equal("undo() of none", x.undo(), NOT_POSSIBLE);
            }
        });
        s.test("NOT_POSSIBLE if there is none to undo.", () -> {
            EdgeCounterPlacer x = new EdgeCounterPlacer();
            s.equal("undo() of a new object", x.undo(), NOT_POSSIBLE);
            x.setWeight(0, 1);
            s.equal("undo()", x.undo(), 0);
            s.equal("undo() again", x.undo(), NOT_POSSIBLE);
            x.setWeight(8, 1);
            s.equal("undo() after a refused change", x.undo(), NOT_POSSIBLE);
            s.equal("weightOf(0)", x.weightOf(0), 100);
        });
    }
}

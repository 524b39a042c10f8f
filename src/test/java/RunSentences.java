import java.util.function.ToIntFunction;

/** The sentences on counters and runs and on the reconstruction. */
final class RunSentences {
    private static final int NOT_POSSIBLE = EdgeCounterPlacer.NOT_POSSIBLE;
    private static final int NOT_FOUND = EdgeCounterPlacer.NOT_FOUND;
    private static final int UNCERTAIN = EdgeCounterPlacer.UNCERTAIN;
    private static final int INVALID = EdgeCounterPlacer.INVALID_ARGUMENT;
    private static final int[] SOURCES = {0, 1, 1, 2, 3, 3, 4, 4};
    private static final int[] TARGETS = {1, 2, 3, 4, 4, 5, 1, 5};
    /** A way through the first graph that passes each edge and ends in the middle of the third run. */
    private static final int[] WAY = {0, 1, 3, 6, 2, 4, 6, 1, 3, 7, 0, 2, 5, 0, 1};

    private final Sentences s;

    RunSentences(Sentences s) {
        this.s = s;
    }

    void look() {
        s.part("Counters and runs");
        counts();
        saturation();
        runs();
        callsThatStartAnew();
        s.part("Reconstruction");
        openEdge();
        equations();
        coefficients();
        reconstructedCounts();
        uncertainty();
    }

    private void counts() {
        s.test("Each edge has a true count, which the simulator keeps for comparison.", () -> {
            EdgeCounterPlacer x = new EdgeCounterPlacer();
            s.equal("setCounterLimit(1)", x.setCounterLimit(1), 60000);
            int[] counts = new int[8];
            for (int edge : WAY) {
                counts[edge]++;
                s.follow(x, edge);
            }
            for (int edge = 0; edge < 8; edge++) {
                s.equal("trueCount(" + edge + ") of tree edges and of saturated chords", x.trueCount(edge), counts[edge]);
            }
        });
        s.test("Each counter holds a value from 0 to the counter limit (1 to 60000).", () -> {
            EdgeCounterPlacer x = Texts.configured("b2;e0,1,1;");
            s.equal("counter(0) at first", x.counter(0), 0);
            for (int call = 0; call < 119; call++) {
                x.drive(call, 500);
            }
            s.equal("drive(0, 499)", x.drive(0, 499), 499);
            s.equal("counter(0) of 59999", x.counter(0), 59999);
            s.equal("saturatedCount() of 59999", x.saturatedCount(), 0);
            s.follow(x, 0);
            s.equal("counter(0) of 60000", x.counter(0), 60000);
            s.equal("saturatedCount() of 60000", x.saturatedCount(), 1);
            s.follow(x, 0);
            s.equal("counter(0) of 60001", x.counter(0), 60000);
            s.equal("setCounterLimit(1)", x.setCounterLimit(1), 60000);
            s.equal("counter(0) by the limit 1", x.counter(0), 0);
            s.follow(x, 0, 0);
            s.equal("counter(0) by the limit 1", x.counter(0), 1);
        });
        s.test("When the run follows an edge, the true count of the edge grows by 1; if the edge is a chord, its counter "
            + "grows by 1 too unless it is at the limit (it is saturated then and stays at the limit).", () -> {
            EdgeCounterPlacer x = Texts.configured("b3;e0,1,9;e0,1,8;e1,2,7;");
            x.setCounterLimit(2);
            int[] counters = {1, 2, 2, 2};
            for (int run = 0; run < 4; run++) {
                s.follow(x, 1, 2);
                s.equal("trueCount(0)", x.trueCount(0), 0);
                s.equal("trueCount(1)", x.trueCount(1), run + 1);
                s.equal("trueCount(2)", x.trueCount(2), run + 1);
                s.equal("counter(0), a tree edge", x.counter(0), NOT_FOUND);
                s.equal("counter(1)", x.counter(1), counters[run]);
                s.equal("counter(2)", x.counter(2), counters[run]);
                s.equal("saturatedCount()", x.saturatedCount(), run == 0 ? 0 : 2);
            }
            EdgeCounterPlacer driven = Texts.configured("b2;a0;");
            driven.setCounterLimit(100);
            s.equal("drive(3, 101)", driven.drive(3, 101), 101);
            s.equal("counter(0)", driven.counter(0), 100);
            s.equal("trueCount(0)", driven.trueCount(0), 101);
            s.equal("drive(3, 500)", driven.drive(3, 500), 500);
            s.equal("counter(0)", driven.counter(0), 100);
            s.equal("trueCount(0)", driven.trueCount(0), 601);
        });
    }

    private void saturation() {
        s.test("A counter whose value equals the limit is called saturated, even if no increment was lost.", () -> {
            EdgeCounterPlacer x = Texts.configured("b2;e0,1,1;");
            x.setCounterLimit(3);
            s.follow(x, 0, 0);
            s.equal("saturatedCount() of 2", x.saturatedCount(), 0);
            s.equal("reconstruct(0) of 2", x.reconstruct(0), 2);
            s.follow(x, 0);
            s.equal("saturatedCount() of 3", x.saturatedCount(), 1);
            s.equal("reconstruct(0) of 3", x.reconstruct(0), UNCERTAIN);
            s.equal("counter(0) of 3", x.counter(0), 3);
            s.equal("trueCount(0) of 3", x.trueCount(0), 3);
        });
    }

    private void runs() {
        s.test("A run starts at the entry and follows edges.", () -> {
            EdgeCounterPlacer x = new EdgeCounterPlacer();
            s.equal("presentBlock() at first", x.presentBlock(), 0);
            s.equal("follow(1) at the entry", x.follow(1), NOT_POSSIBLE);
            for (int edge : WAY) {
                s.equal("presentBlock()", x.presentBlock(), SOURCES[edge]);
                s.equal("follow(" + edge + ")", x.follow(edge), TARGETS[edge] == 5 ? 0 : TARGETS[edge]);
            }
        });
        s.test("When the run follows an edge to the exit, the run ends, the number of finished runs grows by 1, and the "
            + "next run starts at the entry at once.", () -> {
            EdgeCounterPlacer x = new EdgeCounterPlacer();
            s.follow(x, 0, 1, 3);
            s.equal("finishedRuns() before the exit", x.finishedRuns(), 0);
            s.equal("follow(7) to the exit", x.follow(7), 0);
            s.equal("finishedRuns() behind the exit", x.finishedRuns(), 1);
            s.equal("presentBlock() behind the exit", x.presentBlock(), 0);
            s.follow(x, 0, 2);
            s.equal("follow(5), an abort edge", x.follow(5), 0);
            s.equal("finishedRuns()", x.finishedRuns(), 2);
            EdgeCounterPlacer direct = Texts.configured("b2;a0;");
            s.equal("follow(0) from the entry to the exit", direct.follow(0), 0);
            s.equal("finishedRuns()", direct.finishedRuns(), 1);
        });
    }

    private EdgeCounterPlacer busy() {
        EdgeCounterPlacer x = new EdgeCounterPlacer();
        x.setCounterLimit(9);
        s.follow(x, WAY);
        return x;
    }

    private void startsAnewBy(String call, ToIntFunction<EdgeCounterPlacer> change) {
        EdgeCounterPlacer x = busy();
        s.equal("presentBlock() before " + call, x.presentBlock(), 2);
        s.holds(call + " succeeds", change.applyAsInt(x) >= 0);
        s.startsAnew(x);
        s.equal("executions(0) after " + call, x.executions(0), 0);
    }

    private void callsThatStartAnew() {
        s.test("Every successful call of setWeight, adoptCounts and setCounterLimit also sets all counters, all true counts "
            + "and the number of finished runs to 0 and lets a new run start at the entry.", () -> {
            startsAnewBy("setWeight", x -> x.setWeight(3, 999));
            startsAnewBy("setWeight to the same", x -> x.setWeight(0, 100));
            startsAnewBy("adoptCounts", EdgeCounterPlacer::adoptCounts);
            startsAnewBy("setCounterLimit", x -> x.setCounterLimit(8));
            startsAnewBy("setCounterLimit to the same", x -> x.setCounterLimit(9));
            EdgeCounterPlacer x = Texts.configured("b3;e0,1,1;a1;");
            s.follow(x, 0);
            s.equal("adoptCounts() to the same", x.adoptCounts(), 0);
            s.startsAnew(x);
            EdgeCounterPlacer saturated = Texts.configured("b2;a0;");
            saturated.setCounterLimit(1);
            s.follow(saturated, 0);
            s.equal("setCounterLimit(2)", saturated.setCounterLimit(2), 1);
            s.equal("saturatedCount()", saturated.saturatedCount(), 0);
            s.startsAnew(saturated);
            s.follow(saturated, 0, 0);
            s.equal("setWeight(0, 0)", saturated.setWeight(0, 0), 0);
            s.equal("saturatedCount()", saturated.saturatedCount(), 0);
            s.startsAnew(saturated);
            EdgeCounterPlacer refused = busy();
            s.equal("setWeight(8, 1)", refused.setWeight(8, 1), INVALID);
            s.equal("setCounterLimit(0)", refused.setCounterLimit(0), INVALID);
            s.equal("finishedRuns() after refused calls", refused.finishedRuns(), 2);
            s.equal("presentBlock() after refused calls", refused.presentBlock(), 2);
        });
    }

    private void openEdge() {
        s.test("In this section the run that has not ended is ignored in this way: if the present block of the run is not "
            + "the entry, an open edge leads from the present block to the exit, has no number, and has the known count "
            + "1; if the present block is the entry, there is no open edge.", () -> {
            EdgeCounterPlacer x = Texts.configured("b4;e0,1,9;e1,2,9;e2,3,1;e2,1,1;");
            int[][] dueBy = {{1, 0, 0, 0}, {1, 1, 0, 0}, {1, 1, 0, 1}, {1, 2, 0, 1}, {1, 2, 1, 1}, {2, 2, 1, 1}};
            int[] way = {0, 1, 3, 1, 2, 0};
            for (int edge = 0; edge < 4; edge++) {
                s.equal("reconstruct(" + edge + ") at the entry", x.reconstruct(edge), 0);
            }
            for (int step = 0; step < way.length; step++) {
                s.follow(x, way[step]);
                for (int edge = 0; edge < 4; edge++) {
                    s.equal("reconstruct(" + edge + ") after step " + step, x.reconstruct(edge), dueBy[step][edge]);
                }
                // It has no number, so no question for edges shows it.
                s.equal("executions(3) after step " + step, x.executions(3), step < 4 ? 0 : 1);
                s.equal("weightOf(4)", x.weightOf(4), INVALID);
            }
        });
    }

    private void flowsBalance(EdgeCounterPlacer x) {
        int open = x.presentBlock() == 0 ? 0 : 1;
        int returned = x.executions(0);
        for (int block = 0; block < 6; block++) {
            int in = block == 0 ? returned : 0;
            int out = block == 5 ? returned : 0;
            in += block == 5 ? open : 0;
            out += block == x.presentBlock() ? open : 0;
            for (int edge = 0; edge < 8; edge++) {
                in += TARGETS[edge] == block ? x.reconstruct(edge) : 0;
                out += SOURCES[edge] == block ? x.reconstruct(edge) : 0;
            }
            s.equal("what leads from block " + block, out, in);
        }
    }

    private void equations() {
        s.test("For each block, the counts of all edges that lead to it (the return edge and the open edge included) add up "
            + "to the counts of all edges that lead from it.", () -> {
            for (int length = 0; length <= WAY.length; length++) {
                EdgeCounterPlacer x = new EdgeCounterPlacer();
                for (int step = 0; step < length; step++) {
                    s.follow(x, WAY[step]);
                }
                flowsBalance(x);
            }
        });
        s.test("With the values of the counters and the open edge known, these equations determine the counts of all tree "
            + "edges.", () -> {
            EdgeCounterPlacer x = new EdgeCounterPlacer();
            for (int steps = 1; steps <= 20; steps++) {
                x.drive(steps * 7, steps);
                for (int edge = 0; edge < 8; edge++) {
                    s.equal("reconstruct(" + edge + ")", x.reconstruct(edge), x.trueCount(edge));
                }
            }
        });
    }

    private void coefficients() {
        s.test("The coefficient of a chord in a tree edge is the factor of the chord's count in the equation that gives the "
            + "count of the tree edge as a sum over all chords (and the open edge); it is -1, 0 or 1.", () -> {
            // Tree edges 0 (0 to 1) and 2 (2 to 1); chord 1 leads to 2, chord 3 from 1 to the exit.
            EdgeCounterPlacer x = Texts.configured("b4;e0,1,9;e0,2,1;e2,1,8;e1,3,1;e1,2,1;e2,3,1;");
            int[][] due = {{-1, 1, 0, 1}, {1, 0, 1, -1}};
            int[] trees = {0, 2};
            int[] chords = {1, 3, 4, 5};
            for (int t = 0; t < 2; t++) {
                for (int c = 0; c < 4; c++) {
                    s.equal("coefficient(" + trees[t] + ", " + chords[c] + ")", x.coefficient(trees[t], chords[c]), due[t][c]);
                }
            }
        });
    }

    private void reconstructedCounts() {
        s.test("The reconstructed count of a chord is the value of its counter.", () -> {
            EdgeCounterPlacer x = new EdgeCounterPlacer();
            s.follow(x, WAY);
            for (int chord : new int[] {3, 4, 5, 7}) {
                s.equal("reconstruct(" + chord + ")", x.reconstruct(chord), x.counter(chord));
                s.equal("reconstruct(" + chord + ")", x.reconstruct(chord), chord == 3 ? 2 : 1);
            }
        });
        s.test("The reconstructed count of a tree edge is that sum with the values of the counters.", () -> {
            EdgeCounterPlacer x = Texts.configured("b4;e0,1,9;e0,2,1;e2,1,8;e1,3,1;e1,2,1;e2,3,1;");
            s.follow(x, 0, 3, 1, 2, 4, 5, 1, 5, 0, 4);
            int[] counts = {2, 2, 1, 1, 2, 2};
            for (int chord : new int[] {1, 3, 4, 5}) {
                s.equal("counter(" + chord + ")", x.counter(chord), counts[chord]);
            }
            s.equal("reconstruct(0) = -2 + 1 + 2 and the open edge's 1", x.reconstruct(0), 2);
            s.equal("reconstruct(2) = 2 + 2 - 2 and the open edge's -1", x.reconstruct(2), 1);
            EdgeCounterPlacer wide = Texts.configured("b3;e0,1,9;e1,2,1;e1,2,1;");
            for (int call = 0; call < 400; call++) {
                wide.drive(call, 500);
            }
            s.equal("a sum above the limit", wide.reconstruct(0), 100000);
            s.equal("the counters' sum", wide.counter(1) + wide.counter(2), 100000);
        });
    }

    private void uncertainty() {
        s.test("A reconstructed count is uncertain if a saturated counter takes part in it: the chord's own counter, or for "
            + "a tree edge the counter of a chord whose coefficient in that tree edge is not 0.", () -> {
            EdgeCounterPlacer x = new EdgeCounterPlacer();
            x.setCounterLimit(1);
            s.follow(x, 0, 1, 3, 7);
            // Chord 3 has the coefficients 0, 1, 0, 1 in the tree edges 0, 1, 2, 6, and chord 7 has 1, 0, 0, -1.
            int[] due = {UNCERTAIN, UNCERTAIN, 0, UNCERTAIN, 0, 0, UNCERTAIN, UNCERTAIN};
            for (int edge = 0; edge < 8; edge++) {
                s.equal("reconstruct(" + edge + ")", x.reconstruct(edge), due[edge]);
            }
            // The first edge and the last edge as the chord of a tree edge.
            EdgeCounterPlacer ends = Texts.configured("b3;e0,1,1;e0,1,9;a1;e0,1,1;");
            ends.setCounterLimit(1);
            s.follow(ends, 0);
            s.equal("reconstruct(1) by chord 0", ends.reconstruct(1), UNCERTAIN);
            ends.setCounterLimit(1);
            s.equal("reconstruct(1)", ends.reconstruct(1), 0);
            s.follow(ends, 3);
            s.equal("reconstruct(1) by chord 3", ends.reconstruct(1), UNCERTAIN);
            // Chord 1 has the coefficients -1 and 1 in the tree edges 0 and 2, and chord 4 has 0 and 1.
            EdgeCounterPlacer minus = Texts.configured("b4;e0,1,9;e0,2,1;e2,1,8;e1,3,1;e1,2,1;e2,3,1;");
            minus.setCounterLimit(2);
            s.follow(minus, 1, 5, 1);
            s.equal("saturatedCount()", minus.saturatedCount(), 1);
            int[] dueOfMinus = {UNCERTAIN, UNCERTAIN, UNCERTAIN, 0, 0, 1};
            for (int edge = 0; edge < 6; edge++) {
                s.equal("reconstruct(" + edge + ")", minus.reconstruct(edge), dueOfMinus[edge]);
            }
            minus.setCounterLimit(1);
            s.follow(minus, 0, 4);
            int[] dueOfNone = {1, 0, UNCERTAIN, 0, UNCERTAIN, 0};
            for (int edge = 0; edge < 6; edge++) {
                s.equal("reconstruct(" + edge + ") by chord 4", minus.reconstruct(edge), dueOfNone[edge]);
            }
        });
    }
}

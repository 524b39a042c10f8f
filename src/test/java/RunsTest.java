import java.math.BigInteger;

/** Promises 8 to 10, 21, 22 and 27 to 29: the counter limit, follow, drive and what they count. */
public final class RunsTest {
    private static final Due DUE = new Due("RunsTest");
    private static final int INVALID = EdgeCounterPlacer.INVALID_ARGUMENT;
    private static final int[] SOURCES = {0, 1, 1, 2, 3, 3, 4, 4};
    private static final int[] TARGETS = {1, 2, 3, 4, 4, 5, 1, 5};

    public static void main(String[] args) {
        followCountsAndMoves();
        followRefuses();
        runsFromEntryToExit();
        countersStopAtTheLimit();
        valueAtTheLimitIsSaturated();
        setCounterLimitStartsAnew();
        setCounterLimitRefuses();
        counterOfNoChord();
        driveChoosesByTheGenerator();
        driveGoesOnWhereTheRunIs();
        driveRoundForEver();
        driveRefuses();
        manyPasses();
        DUE.close();
    }

    private static void followCountsAndMoves() {
        EdgeCounterPlacer x = new EdgeCounterPlacer();
        int[] edges = {0, 1, 3, 6, 2, 4, 6, 2, 5};
        int[] blocks = {1, 2, 4, 1, 3, 4, 1, 3, 0};
        for (int i = 0; i < edges.length; i++) {
            DUE.equal("follow(" + edges[i] + ")", x.follow(edges[i]), blocks[i]);
            DUE.equal("presentBlock()", x.presentBlock(), blocks[i]);
            DUE.equal("finishedRuns()", x.finishedRuns(), i == edges.length - 1 ? 1 : 0);
        }
        int[] counts = {1, 1, 2, 1, 1, 1, 2, 0};
        int[] counters = {-104, -104, -104, 1, 1, 1, -104, 0};
        for (int edge = 0; edge < 8; edge++) {
            DUE.equal("trueCount(" + edge + ")", x.trueCount(edge), counts[edge]);
            DUE.equal("counter(" + edge + ")", x.counter(edge), counters[edge]);
        }
        DUE.equal("follow(0) in the next run", x.follow(0), 1);
    }

    private static void followRefuses() {
        EdgeCounterPlacer x = new EdgeCounterPlacer();
        for (int edge : new int[] {8, 20, 32, -1, Integer.MIN_VALUE, Integer.MAX_VALUE}) {
            DUE.equal("follow(" + edge + ")", x.follow(edge), INVALID);
            DUE.equal("trueCount(" + edge + ")", x.trueCount(edge), INVALID);
            DUE.equal("counter(" + edge + ")", x.counter(edge), INVALID);
        }
        for (int edge = 1; edge < 8; edge++) {
            DUE.equal("follow(" + edge + ")", x.follow(edge), EdgeCounterPlacer.NOT_POSSIBLE);
            DUE.equal("trueCount(" + edge + ")", x.trueCount(edge), 0);
        }
        DUE.equal("presentBlock()", x.presentBlock(), 0);
        DUE.equal("undo()", x.undo(), EdgeCounterPlacer.NOT_POSSIBLE);
        x.follow(0);
        DUE.equal("follow(0) away from the entry", x.follow(0), EdgeCounterPlacer.NOT_POSSIBLE);
        DUE.equal("follow(5) away from its source", x.follow(5), EdgeCounterPlacer.NOT_POSSIBLE);
        DUE.equal("presentBlock()", x.presentBlock(), 1);
    }

    private static void runsFromEntryToExit() {
        EdgeCounterPlacer x = Texts.configured("b2;e0,1,7;a0;");
        for (int run = 1; run <= 5; run++) {
            DUE.equal("follow to the exit", x.follow(run % 2), 0);
            DUE.equal("finishedRuns()", x.finishedRuns(), run);
            DUE.equal("presentBlock()", x.presentBlock(), 0);
        }
        DUE.equal("counter(0)", x.counter(0), 2);
        DUE.equal("counter(1)", x.counter(1), 3);
    }

    private static void countersStopAtTheLimit() {
        EdgeCounterPlacer x = Texts.configured("b2;e0,1,7;a0;");
        DUE.equal("setCounterLimit(3)", x.setCounterLimit(3), 60000);
        for (int run = 1; run <= 5; run++) {
            x.follow(0);
            DUE.equal("counter(0)", x.counter(0), Math.min(run, 3));
            DUE.equal("trueCount(0)", x.trueCount(0), run);
            DUE.equal("saturatedCount()", x.saturatedCount(), run >= 3 ? 1 : 0);
        }
    }

    private static void valueAtTheLimitIsSaturated() {
        EdgeCounterPlacer x = new EdgeCounterPlacer();
        x.setCounterLimit(1);
        x.follow(0);
        DUE.equal("saturatedCount() with tree edges passed alone", x.saturatedCount(), 0);
        x.follow(2);
        x.follow(5);
        DUE.equal("saturatedCount() without a lost increment", x.saturatedCount(), 1);
        DUE.equal("counter(5)", x.counter(5), 1);
        DUE.equal("reconstruct(5)", x.reconstruct(5), EdgeCounterPlacer.UNCERTAIN);
    }

    private static void setCounterLimitStartsAnew() {
        EdgeCounterPlacer x = new EdgeCounterPlacer();
        x.setWeight(7, 300);
        x.drive(3, 77);
        DUE.equal("setCounterLimit(60000)", x.setCounterLimit(60000), 60000);
        for (int edge = 0; edge < 8; edge++) {
            DUE.equal("trueCount(" + edge + ")", x.trueCount(edge), 0);
            DUE.equal("reconstruct(" + edge + ")", x.reconstruct(edge), 0);
        }
        DUE.equal("finishedRuns()", x.finishedRuns(), 0);
        DUE.equal("presentBlock()", x.presentBlock(), 0);
        DUE.equal("weightOf(7) stays", x.weightOf(7), 300);
        DUE.equal("setCounterLimit(1)", x.setCounterLimit(1), 60000);
        DUE.equal("setCounterLimit(2)", x.setCounterLimit(2), 1);
        DUE.equal("setCounterLimit(59999)", x.setCounterLimit(59999), 2);
    }

    private static void setCounterLimitRefuses() {
        EdgeCounterPlacer x = new EdgeCounterPlacer();
        x.follow(0);
        for (int limit : new int[] {0, -1, 60001, Integer.MIN_VALUE, Integer.MAX_VALUE}) {
            DUE.equal("setCounterLimit(" + limit + ")", x.setCounterLimit(limit), INVALID);
        }
        DUE.equal("trueCount(0)", x.trueCount(0), 1);
        DUE.equal("undo()", x.undo(), 0);
        DUE.equal("the limit", x.setCounterLimit(5), 60000);
    }

    private static void counterOfNoChord() {
        EdgeCounterPlacer x = new EdgeCounterPlacer();
        for (int edge = 0; edge < 8; edge++) {
            DUE.equal("counter(" + edge + ")", x.counter(edge), x.hasCounter(edge) == 1 ? 0 : -104);
        }
    }

    private static int r(int seed, int step) {
        BigInteger x = BigInteger.valueOf(7919).multiply(BigInteger.valueOf(seed))
            .add(BigInteger.valueOf(6151).multiply(BigInteger.valueOf(step))).add(BigInteger.ONE);
        return x.multiply(x).mod(BigInteger.valueOf(65521)).intValue();
    }

    /** Walks the first graph from a block and answers the block it comes to; counts fill in. */
    private static int walk(int block, int seed, int steps, int[] counts) {
        int present = block;
        for (int step = 0; step < steps; step++) {
            int[] leaving = new int[8];
            int m = 0;
            for (int edge = 0; edge < 8; edge++) {
                if (SOURCES[edge] == present) {
                    leaving[m++] = edge;
                }
            }
            int edge = leaving[r(seed, step) % m];
            counts[edge]++;
            present = TARGETS[edge] == 5 ? 0 : TARGETS[edge];
        }
        return present;
    }

    private static void driveChoosesByTheGenerator() {
        int[] seeds = {0, 1, 2, 77, 4242, 5432, 9998, 9999};
        int[] steps = {1, 2, 3, 10, 100, 499, 500};
        for (int seed : seeds) {
            for (int stepCount : steps) {
                EdgeCounterPlacer x = new EdgeCounterPlacer();
                int[] counts = new int[8];
                int present = walk(0, seed, stepCount, counts);
                String call = "drive(" + seed + ", " + stepCount + ")";
                DUE.equal(call, x.drive(seed, stepCount), counts[5] + counts[7]);
                DUE.equal("presentBlock() after " + call, x.presentBlock(), present);
                DUE.equal("finishedRuns() after " + call, x.finishedRuns(), counts[5] + counts[7]);
                for (int edge = 0; edge < 8; edge++) {
                    DUE.equal("trueCount(" + edge + ") after " + call, x.trueCount(edge), counts[edge]);
                    DUE.equal("reconstruct(" + edge + ") after " + call, x.reconstruct(edge), counts[edge]);
                }
            }
        }
    }

    private static void driveGoesOnWhereTheRunIs() {
        EdgeCounterPlacer x = new EdgeCounterPlacer();
        x.follow(0);
        x.follow(2);
        int[] counts = {1, 0, 1, 0, 0, 0, 0, 0};
        int present = walk(3, 11, 20, counts);
        int finished = counts[5] + counts[7];
        DUE.equal("drive(11, 20)", x.drive(11, 20), finished);
        present = walk(present, 11, 20, counts);
        DUE.equal("drive(11, 20) again", x.drive(11, 20), counts[5] + counts[7] - finished);
        DUE.equal("finishedRuns()", x.finishedRuns(), counts[5] + counts[7]);
        DUE.equal("presentBlock()", x.presentBlock(), present);
        for (int edge = 0; edge < 8; edge++) {
            DUE.equal("trueCount(" + edge + ")", x.trueCount(edge), counts[edge]);
        }
    }

    private static void driveRoundForEver() {
        EdgeCounterPlacer x = Texts.configured("b4;e0,1,1;e1,2,1;e2,1,1;");
        DUE.equal("drive(5, 500) without a way to the exit", x.drive(5, 500), 0);
        DUE.equal("presentBlock()", x.presentBlock(), 2);
        DUE.equal("reconstruct(0)", x.reconstruct(0), 1);
        DUE.equal("reconstruct(1)", x.reconstruct(1), 250);
        DUE.equal("reconstruct(2)", x.reconstruct(2), 249);
        DUE.equal("executions(0)", x.executions(0), 1);
        DUE.equal("executions(1)", x.executions(1), 250);
        DUE.equal("executions(3)", x.executions(3), 0);
    }

    private static void driveRefuses() {
        EdgeCounterPlacer x = new EdgeCounterPlacer();
        for (int seed : new int[] {-1, 10000, Integer.MIN_VALUE, Integer.MAX_VALUE}) {
            DUE.equal("drive(" + seed + ", 10)", x.drive(seed, 10), INVALID);
        }
        for (int steps : new int[] {0, -1, 501, Integer.MIN_VALUE, Integer.MAX_VALUE}) {
            DUE.equal("drive(1, " + steps + ")", x.drive(1, steps), INVALID);
        }
        DUE.equal("presentBlock()", x.presentBlock(), 0);
        DUE.equal("trueCount(0)", x.trueCount(0), 0);
        DUE.equal("undo()", x.undo(), EdgeCounterPlacer.NOT_POSSIBLE);
    }

    /** The greatest limit is reached within the calls of one object. */
    private static void manyPasses() {
        EdgeCounterPlacer x = Texts.configured("b2;e0,1,1;");
        for (int call = 1; call <= 119; call++) {
            DUE.equal("drive(0, 500)", x.drive(0, 500), 500);
        }
        DUE.equal("drive(0, 499)", x.drive(0, 499), 499);
        DUE.equal("counter(0) below the limit", x.counter(0), 59999);
        DUE.equal("reconstruct(0) below the limit", x.reconstruct(0), 59999);
        DUE.equal("follow(0)", x.follow(0), 0);
        DUE.equal("counter(0) at the limit", x.counter(0), 60000);
        DUE.equal("reconstruct(0) at the limit", x.reconstruct(0), EdgeCounterPlacer.UNCERTAIN);
        x.drive(0, 500);
        DUE.equal("counter(0) stays", x.counter(0), 60000);
        DUE.equal("trueCount(0) goes on", x.trueCount(0), 60500);
    }
}

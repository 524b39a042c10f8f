import java.util.Random;

/** No call ever throws, whatever its arguments and whatever was called before. */
public final class AnyArgumentsTest {
    private static final Due DUE = new Due("AnyArgumentsTest");
    private static final int[] VALUES = {
        Integer.MIN_VALUE, Integer.MIN_VALUE + 1, -65536, -1000, -101, -33, -32, -31, -2, -1, 0, 1, 2, 9, 10, 11, 19,
        20, 21, 31, 32, 33, 63, 64, 199, 200, 201, 500, 501, 999, 1000, 9999, 10000, 59999, 60000, 60001, 65536,
        Integer.MAX_VALUE - 1, Integer.MAX_VALUE,
    };

    public static void main(String[] args) {
        for (int run = 0; run < 3000; run++) {
            runOfCalls(run);
        }
        DUE.close();
    }

    private static void runOfCalls(int run) {
        Random random = new Random(run);
        EdgeCounterPlacer x = new EdgeCounterPlacer();
        if (run % 3 == 0) {
            Texts.put(x, "b10;" + "e0,9,1;".repeat(2) + "a0;a1;a2;a3;a4;a5;a6;a7;a8;e1,2,3;e3,4,5;e5,6,7;e7,8,9;e0,1,1;"
                + "e8,7,1;e6,5,1;e4,3,1;e2,1,1;");
            x.configure();
        }
        for (int call = run % 3 == 0 ? 112 : 0; call < 512; call++) {
            try {
                int answer = call(x, random.nextInt(28), any(random), any(random));
                DUE.holds("the answer of call " + call + " in run " + run + " is a code or a value", answer >= -105);
            } catch (RuntimeException thrown) {
                DUE.holds("call " + call + " in run " + run + " without " + thrown, false);
                return;
            }
        }
    }

    private static int any(Random random) {
        return random.nextBoolean() ? random.nextInt(12) : VALUES[random.nextInt(VALUES.length)];
    }

    private static int call(EdgeCounterPlacer x, int method, int a, int b) {
        switch (method) {
            case 0: return x.append(a);
            case 1: return x.clearText();
            case 2: return x.firstError();
            case 3: return x.errorReason();
            case 4: return x.configure();
            case 5: return x.setWeight(a, b);
            case 6: return x.setCounterLimit(a);
            case 7: return x.follow(a);
            case 8: return x.drive(a, b);
            case 9: return x.adoptCounts();
            case 10: return x.undo();
            case 11: return x.blockCount();
            case 12: return x.sourceOf(a);
            case 13: return x.targetOf(a);
            case 14: return x.weightOf(a);
            case 15: return x.hasCounter(a);
            case 16: return x.counterCount();
            case 17: return x.placementCost();
            case 18: return x.costShareBits();
            case 19: return x.counter(a);
            case 20: return x.trueCount(a);
            case 21: return x.reconstruct(a);
            case 22: return x.coefficient(a, b);
            case 23: return x.executions(a);
            case 24: return x.dependents(a);
            case 25: return x.saturatedCount();
            case 26: return x.presentBlock();
            default: return x.finishedRuns();
        }
    }
}

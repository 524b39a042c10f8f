import java.util.Random;

/** Long runs of calls on the program and on the plain one beside it; both must answer the same. */
public final class RandomRunsTest {
    private static final Due DUE = new Due("RandomRunsTest");
    private static final int RUNS = 1200;
    private static final int CALLS = 512;

    private final Random random;
    private final String run;
    private final EdgeCounterPlacer x = new EdgeCounterPlacer();
    private final PlainPlacer plain = new PlainPlacer();
    private int calls = 0;
    private int edgeTotal = 8;

    private RandomRunsTest(int run) {
        this.run = "run " + run + ", call ";
        random = new Random(run);
    }

    public static void main(String[] args) {
        for (int run = 0; run < RUNS && !DUE.isHopeless(); run++) {
            new RandomRunsTest(run).go();
        }
        DUE.close();
    }

    private void go() {
        if (random.nextInt(8) > 0) {
            newGraph();
        }
        while (calls < CALLS && !DUE.isHopeless()) {
            int kind = random.nextInt(100);
            if (kind < 4) {
                newGraph();
            } else if (kind < 40) {
                change();
            } else {
                question();
            }
        }
    }

    private void due(String call, int got, int want) {
        calls++;
        DUE.equal(run + calls + ": " + call, got, want);
    }

    // ---- texts

    private void newGraph() {
        String text = random.nextInt(5) == 0 ? spoiled(graphText()) : graphText();
        if (calls + text.length() + 4 > CALLS) {
            return;
        }
        if (random.nextInt(6) > 0) {
            due("clearText()", x.clearText(), plain.clearText());
        }
        for (int i = 0; i < text.length(); i++) {
            int character = text.charAt(i);
            due("append(" + character + ")", x.append(character), plain.append(character));
        }
        due("firstError() of " + text, x.firstError(), plain.firstError());
        due("errorReason() of " + text, x.errorReason(), plain.errorReason());
        int edges = plain.configure();
        due("configure() by " + text, x.configure(), edges);
        edgeTotal = edges >= 0 ? edges : edgeTotal;
    }

    private String graphText() {
        int blocks = 2 + random.nextInt(9);
        StringBuilder text = new StringBuilder("b" + number(blocks) + ";");
        int edges = 1 + random.nextInt(20);
        boolean lined = random.nextInt(6) > 0;
        for (int edge = 0; edge < Math.max(edges, lined ? blocks - 1 : 0); edge++) {
            if (random.nextInt(7) == 0) {
                text.append('a').append(number(random.nextInt(blocks - (random.nextInt(9) == 0 ? 0 : 1)))).append(';');
            }
            int from = lined && edge < blocks - 1 ? edge : random.nextInt(blocks - 1);
            int to = 1 + random.nextInt(blocks - 1);
            if (to == from) {
                to = blocks - 1;
            }
            text.append('e').append(number(from)).append(',').append(number(to)).append(',').append(weight()).append(';');
        }
        return text.toString();
    }

    private String number(int value) {
        return random.nextInt(15) == 0 ? "0" + value : "" + value;
    }

    private int weight() {
        return random.nextInt(3) == 0 ? random.nextInt(1000) : random.nextInt(4);
    }

    private String spoiled(String text) {
        int place = random.nextInt(text.length());
        String signs = "0123456789abe,,;;; ~";
        char sign = signs.charAt(random.nextInt(signs.length()));
        switch (random.nextInt(4)) {
            case 0: return text.substring(0, place);
            case 1: return text.substring(0, place) + text.substring(place + 1);
            case 2: return text.substring(0, place) + sign + text.substring(place + 1);
            default: return text.substring(0, place) + sign + text.substring(place);
        }
    }

    // ---- changes

    private int edge() {
        return random.nextInt(25) == 0 ? random.nextInt(90) - 30 : random.nextInt(edgeTotal);
    }

    private void change() {
        int kind = random.nextInt(20);
        if (kind < 3) {
            int edge = edge();
            int weight = random.nextInt(12) == 0 ? random.nextInt(4000) - 1500 : weight();
            due("setWeight(" + edge + ", " + weight + ")", x.setWeight(edge, weight), plain.setWeight(edge, weight));
        } else if (kind < 5) {
            int limit = random.nextInt(3) == 0 ? random.nextInt(70000) - 5000 : random.nextInt(60);
            due("setCounterLimit(" + limit + ")", x.setCounterLimit(limit), plain.setCounterLimit(limit));
        } else if (kind < 11) {
            int edge = edge();
            due("follow(" + edge + ")", x.follow(edge), plain.follow(edge));
        } else if (kind < 14) {
            int seed = random.nextInt(15) == 0 ? random.nextInt(30000) - 10000 : random.nextInt(10000);
            int steps = random.nextInt(15) == 0 ? random.nextInt(1100) - 300 : 1 + random.nextInt(80);
            due("drive(" + seed + ", " + steps + ")", x.drive(seed, steps), plain.drive(seed, steps));
        } else if (kind < 16) {
            due("adoptCounts()", x.adoptCounts(), plain.adoptCounts());
        } else {
            due("undo()", x.undo(), plain.undo());
        }
    }

    // ---- questions

    private void question() {
        int edge = edge();
        int chord = edge();
        switch (random.nextInt(18)) {
            case 0: due("blockCount()", x.blockCount(), plain.blockCount()); break;
            case 1: due("sourceOf(" + edge + ")", x.sourceOf(edge), plain.sourceOf(edge)); break;
            case 2: due("targetOf(" + edge + ")", x.targetOf(edge), plain.targetOf(edge)); break;
            case 3: due("weightOf(" + edge + ")", x.weightOf(edge), plain.weightOf(edge)); break;
            case 4: due("hasCounter(" + edge + ")", x.hasCounter(edge), plain.hasCounter(edge)); break;
            case 5: due("counterCount()", x.counterCount(), plain.counterCount()); break;
            case 6: due("placementCost()", x.placementCost(), plain.placementCost()); break;
            case 7: due("costShareBits()", x.costShareBits(), plain.costShareBits()); break;
            case 8: due("counter(" + edge + ")", x.counter(edge), plain.counter(edge)); break;
            case 9: due("trueCount(" + edge + ")", x.trueCount(edge), plain.trueCount(edge)); break;
            case 10: due("executions(" + edge + ")", x.executions(edge), plain.executions(edge)); break;
            case 11: due("dependents(" + edge + ")", x.dependents(edge), plain.dependents(edge)); break;
            case 12: due("saturatedCount()", x.saturatedCount(), plain.saturatedCount()); break;
            case 13: due("presentBlock()", x.presentBlock(), plain.presentBlock()); break;
            case 14: due("finishedRuns()", x.finishedRuns(), plain.finishedRuns()); break;
            case 15: reconstructAll(); break;
            default:
                due("coefficient(" + edge + ", " + chord + ")", x.coefficient(edge, chord), plain.coefficient(edge, chord));
                break;
        }
    }

    private void reconstructAll() {
        if (calls + 2 * edgeTotal + plain.blockCount() > CALLS) {
            return;
        }
        for (int edge = 0; edge < edgeTotal; edge++) {
            int got = x.reconstruct(edge);
            due("reconstruct(" + edge + ")", got, plain.reconstruct(edge));
            if (got != EdgeCounterPlacer.UNCERTAIN) {
                due("trueCount(" + edge + ") of a certain count", x.trueCount(edge), got);
            }
        }
        for (int block = 0; block < plain.blockCount(); block++) {
            due("executions(" + block + ")", x.executions(block), plain.executions(block));
        }
    }
}

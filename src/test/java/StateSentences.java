import java.util.ArrayList;
import java.util.List;
import java.util.function.Consumer;
import java.util.function.Supplier;
import java.util.function.ToIntFunction;

/** The sentences that hold for all calls: how long an object serves, error codes, undo, the constants. */
final class StateSentences {
    private static final int INVALID = EdgeCounterPlacer.INVALID_ARGUMENT;
    private static final int NOT_POSSIBLE = EdgeCounterPlacer.NOT_POSSIBLE;
    private static final int CAPACITY_EXCEEDED = EdgeCounterPlacer.CAPACITY_EXCEEDED;
    private static final int NOT_FOUND = EdgeCounterPlacer.NOT_FOUND;
    private static final int UNCERTAIN = EdgeCounterPlacer.UNCERTAIN;
    private static final int LEAST = Integer.MIN_VALUE;
    private static final int MOST = Integer.MAX_VALUE;
    private static final Consumer<EdgeCounterPlacer> NOTHING = x -> { };

    private final Sentences s;

    StateSentences(Sentences s) {
        this.s = s;
    }

    void look() {
        s.part("What it is");
        lifeOfAnObject();
        s.part("Description");
        divisions();
        errorsChangeNothing();
        firstOfSeveralErrors();
        s.part("Undo");
        changes();
        newestFour();
        configureForgets();
        s.part("The constants");
        constants();
    }

    private void lifeOfAnObject() {
        s.test("A placer of edge profiling counters: it puts counters on the chords of a maximum-weight spanning tree of a "
            + "control flow graph, simulates runs, and reconstructs the counts of all edges from the counters.", () -> {
            EdgeCounterPlacer x = new EdgeCounterPlacer();
            s.equal("counterCount()", x.counterCount(), 4);
            s.equal("drive(1, 100)", x.drive(1, 100), 20);
            for (int edge = 0; edge < 8; edge++) {
                s.equal("reconstruct(" + edge + ")", x.reconstruct(edge), x.trueCount(edge));
            }
        });
        s.test("An object is used for at most 512 calls after it has been made; what later calls answer is free.", () -> {
            EdgeCounterPlacer x = new EdgeCounterPlacer();
            for (int run = 0; run < 170; run++) {
                s.follow(x, 0, 2, 5);
            }
            s.equal("finishedRuns(), the 511th call", x.finishedRuns(), 170);
            s.equal("reconstruct(0), the 512th call", x.reconstruct(0), 170);
            EdgeCounterPlacer changed = new EdgeCounterPlacer();
            for (int weight = 0; weight < 507; weight++) {
                changed.setWeight(0, weight);
            }
            for (int left = 3; left >= 0; left--) {
                s.equal("undo() near the 512th call", changed.undo(), left);
            }
            s.equal("undo(), the 512th call", changed.undo(), NOT_POSSIBLE);
            EdgeCounterPlacer appended = new EdgeCounterPlacer();
            for (int call = 1; call <= 512; call++) {
                s.equal("append, call " + call, appended.append('b'), call <= 200 ? call : CAPACITY_EXCEEDED);
            }
        });
    }

    private void divisions() {
        s.test("All divisions of whole numbers in this document round down; their operands are never negative.", () -> {
            // The only divisions are those of drive: the remainders are never negative, so an edge is always chosen.
            EdgeCounterPlacer x = Texts.configured("b2;" + "e0,1,1;".repeat(20));
            for (int seed = 9980; seed < 10000; seed++) {
                s.equal("drive(" + seed + ", 500)", x.drive(seed, 500), 500);
            }
            int passes = 0;
            for (int edge = 0; edge < 20; edge++) {
                passes += x.trueCount(edge);
            }
            s.equal("passes of all edges", passes, 10000);
        });
    }

    // ---- error codes

    /** Limit, history, counts and text all hold something that a wrong step would show. */
    private static EdgeCounterPlacer busy(String text) {
        EdgeCounterPlacer x = new EdgeCounterPlacer();
        Texts.put(x, text);
        x.setWeight(7, 20);
        x.setCounterLimit(2);
        x.drive(1, 100);
        x.drive(2, 100);
        x.setCounterLimit(1);
        x.follow(0);
        x.follow(1);
        x.follow(3);
        return x;
    }

    private void refused(Supplier<EdgeCounterPlacer> made, String name, int code, ToIntFunction<EdgeCounterPlacer> call) {
        s.equal(name, call.applyAsInt(made.get()), code);
        s.same("the state after " + name, State.whole(made, call::applyAsInt), State.whole(made, NOTHING));
    }

    private void busyRefuses(String name, int code, ToIntFunction<EdgeCounterPlacer> call) {
        refused(() -> busy("b2;a0;"), name, code, call);
    }

    private void errorsChangeNothing() {
        s.test("No method changes anything when it returns an error code.", () -> {
            refusedTexts();
            refusedChanges();
            refusedQuestionsForEdges();
            refusedQuestions();
        });
    }

    private void refusedTexts() {
        busyRefuses("append(31)", INVALID, x -> x.append(31));
        busyRefuses("append(127)", INVALID, x -> x.append(127));
        refused(() -> busy("b2;a0;" + "x".repeat(194)), "append to a full text", CAPACITY_EXCEEDED, x -> x.append('b'));
        busyRefuses("firstError()", NOT_FOUND, EdgeCounterPlacer::firstError);
        busyRefuses("errorReason()", NOT_FOUND, EdgeCounterPlacer::errorReason);
        refused(() -> busy("b2;a0;x"), "configure() by a malformed text", NOT_POSSIBLE, EdgeCounterPlacer::configure);
        refused(() -> busy("b9;e0,1,5;a9;"), "configure() by a malformed text", NOT_POSSIBLE, EdgeCounterPlacer::configure);
        refused(() -> busy(""), "configure() by no text", NOT_POSSIBLE, EdgeCounterPlacer::configure);
        refused(() -> busy("b3;e0,1,5;"), "configure() of half a graph", NOT_POSSIBLE, EdgeCounterPlacer::configure);
    }

    private void refusedChanges() {
        for (int edge : Sentences.NO_EDGES_OF_8) {
            busyRefuses("setWeight(" + edge + ", 5)", INVALID, x -> x.setWeight(edge, 5));
            busyRefuses("follow(" + edge + ")", INVALID, x -> x.follow(edge));
        }
        for (int weight : new int[] {-1, 1000, LEAST, MOST}) {
            busyRefuses("setWeight(7, " + weight + ")", INVALID, x -> x.setWeight(7, weight));
        }
        for (int limit : new int[] {0, -1, 60001, LEAST, MOST}) {
            busyRefuses("setCounterLimit(" + limit + ")", INVALID, x -> x.setCounterLimit(limit));
        }
        for (int edge : new int[] {0, 1, 2, 3, 4, 5}) {
            busyRefuses("follow(" + edge + ") away from its source", NOT_POSSIBLE, x -> x.follow(edge));
        }
        for (int seed : new int[] {-1, 10000, LEAST, MOST}) {
            busyRefuses("drive(" + seed + ", 5)", INVALID, x -> x.drive(seed, 5));
        }
        for (int steps : new int[] {0, -1, 501, LEAST, MOST}) {
            busyRefuses("drive(5, " + steps + ")", INVALID, x -> x.drive(5, steps));
        }
        busyRefuses("adoptCounts()", UNCERTAIN, EdgeCounterPlacer::adoptCounts);
        refused(() -> Texts.configured("b2;a0;e0,1,5;"), "undo()", NOT_POSSIBLE, EdgeCounterPlacer::undo);
        refused(() -> {
            EdgeCounterPlacer x = busy("b2;a0;");
            for (int undone = 0; undone < 4; undone++) {
                x.undo();
            }
            return x;
        }, "undo() of the fifth change", NOT_POSSIBLE, EdgeCounterPlacer::undo);
    }

    private void refusedQuestionsForEdges() {
        for (int edge : Sentences.NO_EDGES_OF_8) {
            busyRefuses("sourceOf(" + edge + ")", INVALID, x -> x.sourceOf(edge));
            busyRefuses("targetOf(" + edge + ")", INVALID, x -> x.targetOf(edge));
            busyRefuses("weightOf(" + edge + ")", INVALID, x -> x.weightOf(edge));
            busyRefuses("hasCounter(" + edge + ")", INVALID, x -> x.hasCounter(edge));
            busyRefuses("counter(" + edge + ")", INVALID, x -> x.counter(edge));
            busyRefuses("trueCount(" + edge + ")", INVALID, x -> x.trueCount(edge));
            busyRefuses("reconstruct(" + edge + ")", INVALID, x -> x.reconstruct(edge));
            busyRefuses("coefficient(" + edge + ", 3)", INVALID, x -> x.coefficient(edge, 3));
            busyRefuses("coefficient(0, " + edge + ")", INVALID, x -> x.coefficient(0, edge));
            busyRefuses("executions(" + edge + ")", INVALID, x -> x.executions(edge));
            busyRefuses("dependents(" + edge + ")", INVALID, x -> x.dependents(edge));
        }
    }

    private void refusedQuestions() {
        busyRefuses("counter(0)", NOT_FOUND, x -> x.counter(0));
        busyRefuses("reconstruct(3)", UNCERTAIN, x -> x.reconstruct(3));
        busyRefuses("reconstruct(1)", UNCERTAIN, x -> x.reconstruct(1));
        busyRefuses("coefficient(3, 4)", NOT_FOUND, x -> x.coefficient(3, 4));
        busyRefuses("coefficient(0, 1)", NOT_FOUND, x -> x.coefficient(0, 1));
        busyRefuses("executions(2)", UNCERTAIN, x -> x.executions(2));
        busyRefuses("dependents(0)", NOT_FOUND, x -> x.dependents(0));
        refused(() -> {
            EdgeCounterPlacer x = Texts.configured("b2;a0;e0,1,5;");
            x.setWeight(1, 0);
            x.follow(1);
            return x;
        }, "costShareBits()", NOT_FOUND, EdgeCounterPlacer::costShareBits);
    }

    private void firstOfSeveralErrors() {
        s.test("When several error codes apply to a call, the first one named at that method's return value is returned.",
            () -> {
            EdgeCounterPlacer full = new EdgeCounterPlacer();
            Texts.put(full, "b".repeat(200));
            s.equal("append(31) to a full text", full.append(31), INVALID);
            s.equal("append(127) to a full text", full.append(127), INVALID);
            s.equal("append(-1) to a full text", full.append(-1), INVALID);
            EdgeCounterPlacer x = busy("");
            for (int edge : Sentences.NO_EDGES_OF_8) {
                s.equal("follow(" + edge + ") in block 4", x.follow(edge), INVALID);
                s.equal("counter(" + edge + ")", x.counter(edge), INVALID);
                s.equal("reconstruct(" + edge + ") with saturated counters", x.reconstruct(edge), INVALID);
                s.equal("coefficient(" + edge + ", 0), where 0 is no chord", x.coefficient(edge, 0), INVALID);
                s.equal("coefficient(3, " + edge + "), where 3 is no tree edge", x.coefficient(3, edge), INVALID);
                s.equal("coefficient(" + edge + ", " + edge + ")", x.coefficient(edge, edge), INVALID);
                s.equal("executions(" + edge + ") with saturated counters", x.executions(edge), INVALID);
                s.equal("dependents(" + edge + ")", x.dependents(edge), INVALID);
            }
        });
    }

    // ---- Undo

    private static int change(EdgeCounterPlacer x, int kind) {
        switch (kind) {
            case 0: return x.setWeight(1, 999);
            case 1: return x.setCounterLimit(300);
            case 2: return x.follow(7);
            case 3: return x.drive(8, 90);
            default: return x.adoptCounts();
        }
    }

    private void undone(String name, EdgeCounterPlacer x, int answer) {
        s.holds(name + " succeeds", answer >= 0);
        s.equal("undo() of " + name, x.undo(), 0);
        s.equal("undo() again", x.undo(), NOT_POSSIBLE);
    }

    private void changes() {
        s.test("Every successful call of setWeight, setCounterLimit, follow, drive and adoptCounts is a change, also if it "
            + "leaves everything as it was.", () -> {
            EdgeCounterPlacer x = Texts.configured("b2;e0,1,0;");
            undone("setWeight", x, x.setWeight(0, 1));
            undone("setWeight to the same", x, x.setWeight(0, 0));
            undone("setCounterLimit", x, x.setCounterLimit(1));
            undone("setCounterLimit to the same", x, x.setCounterLimit(60000));
            undone("follow", x, x.follow(0));
            undone("drive", x, x.drive(0, 1));
            undone("adoptCounts to the same", x, x.adoptCounts());
            x.setWeight(0, 5);
            s.equal("adoptCounts()", x.adoptCounts(), 1);
            s.equal("undo() of adoptCounts", x.undo(), 1);
            s.equal("weightOf(0)", x.weightOf(0), 5);
            EdgeCounterPlacer same = Texts.configured("b2;e0,1,0;");
            same.setWeight(0, 0);
            same.setCounterLimit(60000);
            same.adoptCounts();
            same.setWeight(0, 0);
            for (int left = 3; left >= 0; left--) {
                s.equal("undo() of a change that left all as it was", same.undo(), left);
            }
            EdgeCounterPlacer asked = new EdgeCounterPlacer();
            asked.append('b');
            asked.firstError();
            asked.clearText();
            asked.configure();
            State.of(asked);
            asked.coefficient(0, 3);
            asked.dependents(3);
            s.equal("undo() after calls that are no changes", asked.undo(), NOT_POSSIBLE);
        });
    }

    /** In the middle of a run, with a limit, weights and a tree that are not the first ones. */
    private static EdgeCounterPlacer inTheMiddle() {
        EdgeCounterPlacer x = new EdgeCounterPlacer();
        x.setCounterLimit(40);
        x.setWeight(3, 95);
        x.drive(17, 60);
        while (x.presentBlock() != 4) {
            x.follow(new int[] {0, 1, 3, 4}[x.presentBlock()]);
        }
        return x;
    }

    private void newestFour() {
        s.test("The newest 4 changes can be undone, the newest first; everything but the graph text is then as before the "
            + "change.", () -> {
            for (int changes = 1; changes <= 13; changes++) {
                newestWeightsAreUndone(changes);
            }
            for (int first = 0; first < 5; first++) {
                allOfFourAreUndone(first);
            }
            for (int kind = 0; kind < 5; kind++) {
                EdgeCounterPlacer x = inTheMiddle();
                s.holds("change " + kind + " succeeds", change(x, kind) >= 0);
                s.equal("undo() of change " + kind, x.undo(), 3);
                s.equal("the limit before change " + kind, x.setCounterLimit(7), 40);
            }
            EdgeCounterPlacer x = new EdgeCounterPlacer();
            x.append('b');
            x.follow(0);
            x.append('2');
            s.equal("undo()", x.undo(), 0);
            s.equal("the text's length", x.append(';'), 3);
            x.follow(0);
            s.equal("clearText()", x.clearText(), 3);
            s.equal("undo()", x.undo(), 0);
            s.equal("the text's length", x.clearText(), 0);
        });
    }

    private void newestWeightsAreUndone(int changes) {
        EdgeCounterPlacer x = new EdgeCounterPlacer();
        for (int change = 0; change < changes; change++) {
            x.setWeight(0, change);
        }
        for (int undone = 1; undone <= changes && undone <= 4; undone++) {
            s.equal("undo() of " + changes + " changes", x.undo(), Math.min(changes, 4) - undone);
            s.equal("weightOf(0)", x.weightOf(0), undone == changes ? 100 : changes - 1 - undone);
        }
        s.equal("undo() of no more", x.undo(), NOT_POSSIBLE);
    }

    /** Four changes behind others, which fall out of the newest four. */
    private void allOfFourAreUndone(int first) {
        EdgeCounterPlacer x = inTheMiddle();
        List<String> before = new ArrayList<>();
        for (int i = 0; i < 4; i++) {
            before.add(State.of(x));
            int kind = (first + i) % 5;
            boolean atEntry = x.presentBlock() == 0;
            s.holds("change " + kind + " succeeds", (kind == 2 && atEntry ? x.follow(0) : change(x, kind)) >= 0);
        }
        for (int left = 3; left >= 0; left--) {
            s.equal("undo()", x.undo(), left);
            s.same("the state before change " + left, State.of(x), before.get(left));
        }
        s.equal("undo() of the fifth", x.undo(), NOT_POSSIBLE);
    }

    private void configureForgets() {
        s.test("After configure nothing can be undone.", () -> {
            for (int changes = 1; changes <= 5; changes++) {
                EdgeCounterPlacer x = new EdgeCounterPlacer();
                Texts.put(x, "b2;a0;");
                for (int change = 0; change < changes; change++) {
                    x.setWeight(0, change);
                }
                s.equal("configure()", x.configure(), 1);
                s.equal("undo() after configure", x.undo(), NOT_POSSIBLE);
                s.equal("blockCount()", x.blockCount(), 2);
                s.follow(x, 0);
                s.equal("undo() of a change behind it", x.undo(), 0);
                s.equal("undo() again", x.undo(), NOT_POSSIBLE);
            }
        });
    }

    private void constants() {
        s.test("`INVALID_ARGUMENT = -101`: An argument is out of its range.", () ->
            s.equal("INVALID_ARGUMENT", INVALID, -101));
        s.test("`NOT_POSSIBLE = -102`: The call is not possible in the present state.", () ->
            s.equal("NOT_POSSIBLE", NOT_POSSIBLE, -102));
        s.test("`CAPACITY_EXCEEDED = -103`: There is no room for one more.", () ->
            s.equal("CAPACITY_EXCEEDED", CAPACITY_EXCEEDED, -103));
        s.test("`NOT_FOUND = -104`: There is no such thing.", () ->
            s.equal("NOT_FOUND", NOT_FOUND, -104));
        s.test("`UNCERTAIN = -105`: A reconstructed count is uncertain.", () ->
            s.equal("UNCERTAIN", UNCERTAIN, -105));
        s.test("`REASON_KIND = 1, REASON_NUMBER = 2, REASON_RANGE = 3, REASON_REPEATED = 4, REASON_FULL = 5`: Reasons of a "
            + "malformed statement.", () -> {
            s.equal("REASON_KIND", EdgeCounterPlacer.REASON_KIND, 1);
            s.equal("REASON_NUMBER", EdgeCounterPlacer.REASON_NUMBER, 2);
            s.equal("REASON_RANGE", EdgeCounterPlacer.REASON_RANGE, 3);
            s.equal("REASON_REPEATED", EdgeCounterPlacer.REASON_REPEATED, 4);
            s.equal("REASON_FULL", EdgeCounterPlacer.REASON_FULL, 5);
        });
        s.test("The constructor and the methods follow, a promise each: the signature, then what it does.", () -> {
            // FaceTest compares all signatures.
            s.equal("number of constructors", EdgeCounterPlacer.class.getConstructors().length, 1);
        });
    }
}

import java.io.IOException;
import java.util.Set;

/**
 * Runs tests that each look at one sentence of the document, and tells with a wrong answer which
 * promise and which sentence it breaks. In the end no sentence may be left without a test.
 */
final class Sentences {
    /** Parts without sentences of their own to test: FaceTest and ExamplesTest look at two of them. */
    private static final Set<String> ELSEWHERE = Set.of("", "EdgeCounterPlacer", "The public face", "Examples",
        "Not promised");

    static final int[] NO_EDGES_OF_8 = {8, 9, 20, 31, 32, 40, -1, -24, -32, Integer.MIN_VALUE, Integer.MAX_VALUE};

    /** Null where the document is not at hand: then the answers alone are looked at. */
    private final Document document = Document.isHere() ? new Document() : null;
    private final Due due;
    private String part = "";
    private String looked = "";

    Sentences(Due due) throws IOException {
        this.due = due;
    }

    /** The tests that follow look at this part of the document. */
    void part(String name) {
        part = name;
        looked = name + ": ";
    }

    void test(String sentence, Runnable check) {
        looked = part + ", \"" + sentence + "\": ";
        if (document != null) {
            due.holds(looked + "the document says so", document.quote(part, sentence));
        }
        int askedBefore = due.asked();
        check.run();
        due.holds(looked + "the test asks something", due.asked() > askedBefore);
    }

    void noneIsLeft() {
        if (document == null) {
            System.out.println("There is no document to compare the quoted sentences with.");
            return;
        }
        for (String name : document.parts()) {
            if (!ELSEWHERE.contains(name)) {
                String rest = document.unquoted(name);
                due.holds(name + ": \"" + rest + "\" has a test", rest.isEmpty());
            }
        }
    }

    void equal(String call, long got, long want) {
        due.equal(looked + call, got, want);
    }

    void holds(String what, boolean held) {
        due.holds(looked + what, held);
    }

    void same(String what, String got, String want) {
        due.holds(looked + what + " [" + got + "] is [" + want + "]", got.equals(want));
    }

    // ---- what several sentences ask

    void malformed(String text, int place, int reason) {
        EdgeCounterPlacer x = new EdgeCounterPlacer();
        Texts.put(x, text);
        equal("firstError() of " + text, x.firstError(), place);
        equal("errorReason() of " + text, x.errorReason(), reason);
        equal("configure() by " + text, x.configure(), EdgeCounterPlacer.NOT_POSSIBLE);
    }

    void wellFormed(String text) {
        EdgeCounterPlacer x = new EdgeCounterPlacer();
        Texts.put(x, text);
        equal("firstError() of " + text, x.firstError(), EdgeCounterPlacer.NOT_FOUND);
        equal("errorReason() of " + text, x.errorReason(), EdgeCounterPlacer.NOT_FOUND);
    }

    void configures(String text, int edges) {
        EdgeCounterPlacer x = new EdgeCounterPlacer();
        Texts.put(x, text);
        equal("configure() by " + text, x.configure(), edges);
    }

    /** The chords come in rising order; every other edge up to the last one is in the tree. */
    void chords(EdgeCounterPlacer x, int... chords) {
        equal("counterCount()", x.counterCount(), chords.length);
        int next = 0;
        for (int edge = 0; x.sourceOf(edge) >= 0; edge++) {
            boolean isChord = next < chords.length && chords[next] == edge;
            next += isChord ? 1 : 0;
            equal("hasCounter(" + edge + ")", x.hasCounter(edge), isChord ? 1 : 0);
        }
    }

    void chords(String text, int... chords) {
        chords(Texts.configured(text), chords);
    }

    /** Follows edges, each of which must be possible. */
    void follow(EdgeCounterPlacer x, int... edges) {
        for (int edge : edges) {
            holds("follow(" + edge + ") is possible", x.follow(edge) >= 0);
        }
    }

    /** Nothing has been counted and the run stands at the entry. */
    void startsAnew(EdgeCounterPlacer x) {
        for (int edge = 0; x.sourceOf(edge) >= 0; edge++) {
            equal("trueCount(" + edge + ")", x.trueCount(edge), 0);
            equal("reconstruct(" + edge + ")", x.reconstruct(edge), 0);
            if (x.hasCounter(edge) == 1) {
                equal("counter(" + edge + ")", x.counter(edge), 0);
            }
        }
        equal("finishedRuns()", x.finishedRuns(), 0);
        equal("presentBlock()", x.presentBlock(), 0);
    }
}

/** Promises 2 to 6: the graph text, its errors, and configure. */
public final class GraphTextTest {
    private static final Due DUE = new Due("GraphTextTest");
    private static final int NONE = EdgeCounterPlacer.NOT_FOUND;
    private static final int KIND = EdgeCounterPlacer.REASON_KIND;
    private static final int NUMBER = EdgeCounterPlacer.REASON_NUMBER;
    private static final int RANGE = EdgeCounterPlacer.REASON_RANGE;
    private static final int REPEATED = EdgeCounterPlacer.REASON_REPEATED;
    private static final int FULL = EdgeCounterPlacer.REASON_FULL;

    public static void main(String[] args) {
        appendTakesTheCodesFrom32To126();
        appendStopsAt200();
        clearTextAnswersTheOldLength();
        wellFormedTexts();
        errorsOfKind();
        errorsOfNumber();
        errorsOfRange();
        errorsOfRepetitionAndRoom();
        orderOfErrors();
        configureTakesCompleteGraphs();
        configureRefuses();
        configureStartsAnew();
        failedConfigureChangesNothing();
        DUE.close();
    }

    private static void appendTakesTheCodesFrom32To126() {
        EdgeCounterPlacer x = new EdgeCounterPlacer();
        int[] refused = {31, 127, 0, -1, 128, 65536 + 98, Integer.MIN_VALUE, Integer.MAX_VALUE};
        for (int character : refused) {
            DUE.equal("append(" + character + ")", x.append(character), EdgeCounterPlacer.INVALID_ARGUMENT);
        }
        DUE.equal("clearText() after refused characters", x.clearText(), 0);
        for (int character = 32; character <= 126; character++) {
            DUE.equal("append(" + character + ")", x.append(character), character - 31);
        }
    }

    private static void appendStopsAt200() {
        EdgeCounterPlacer x = new EdgeCounterPlacer();
        for (int length = 1; length <= 200; length++) {
            DUE.equal("append to " + length, x.append('b'), length);
        }
        DUE.equal("append the 201st", x.append('b'), EdgeCounterPlacer.CAPACITY_EXCEEDED);
        DUE.equal("append a wrong 201st", x.append(127), EdgeCounterPlacer.INVALID_ARGUMENT);
        DUE.equal("append a wrong 201st", x.append(31), EdgeCounterPlacer.INVALID_ARGUMENT);
        DUE.equal("clearText() of a full text", x.clearText(), 200);
        DUE.equal("append after clearText()", x.append('b'), 1);
    }

    private static void clearTextAnswersTheOldLength() {
        EdgeCounterPlacer x = new EdgeCounterPlacer();
        DUE.equal("clearText() of a new object", x.clearText(), 0);
        x.append('x');
        x.append('y');
        DUE.equal("errorReason() of xy", x.errorReason(), KIND);
        DUE.equal("clearText()", x.clearText(), 2);
        DUE.equal("firstError() of a cleared text", x.firstError(), NONE);
        DUE.equal("clearText() twice", x.clearText(), 0);
    }

    private static void error(String text, int place, int reason) {
        EdgeCounterPlacer x = new EdgeCounterPlacer();
        Texts.put(x, text);
        DUE.equal("firstError() of " + text, x.firstError(), place);
        DUE.equal("errorReason() of " + text, x.errorReason(), reason);
        if (place != NONE) {
            DUE.equal("configure() by " + text, x.configure(), EdgeCounterPlacer.NOT_POSSIBLE);
        }
        DUE.equal("the length of " + text, x.clearText(), text.length());
    }

    private static void wellFormedTexts() {
        error("", NONE, NONE);
        error("b2;", NONE, NONE);
        error("b10;", NONE, NONE);
        error("b002;", NONE, NONE);
        error("b010;e000,009,000;e08,009,999;a0;a008;", NONE, NONE);
        error("b3;e0,1,5;e0,1,5;e1,2,5;a1;a0;", NONE, NONE);
        error("b3;" + "e0,1,1;".repeat(20), NONE, NONE);
        error("b3;" + "e0,1,1;".repeat(18) + "a0;a1;", NONE, NONE);
    }

    private static void errorsOfKind() {
        error(" b3;", 0, KIND);
        error("B3;", 0, KIND);
        error(";", 0, KIND);
        error("3", 0, KIND);
        error("e0,1,5;", 0, KIND);
        error("a0;", 0, KIND);
        error("e", 0, KIND);
        error("b3;b3;", 3, KIND);
        error("b3;b", 3, KIND);
        error("b3;c0;", 3, KIND);
        error("b3; a0;", 3, KIND);
        error("b3;;", 3, KIND);
        error("b3;E0,1,5;", 3, KIND);
        error("b3;a0;d1;", 6, KIND);
        error("b3;a0;`1;", 6, KIND);
        error("b3;a0;f1;", 6, KIND);
    }

    private static void errorsOfNumber() {
        error("b", 0, NUMBER);
        error("b;", 0, NUMBER);
        error("b3", 0, NUMBER);
        error("b 3;", 0, NUMBER);
        error("b3 ;", 0, NUMBER);
        error("b3,", 0, NUMBER);
        error("b3,4;", 0, NUMBER);
        error("b0003;", 0, NUMBER);
        error("b-3;", 0, NUMBER);
        error("b3:", 0, NUMBER);
        error("b/;", 0, NUMBER);
        error("b3;e", 3, NUMBER);
        error("b3;e0,1,5", 3, NUMBER);
        error("b3;e0,1,;", 3, NUMBER);
        error("b3;e,1,5;", 3, NUMBER);
        error("b3;e0,,5;", 3, NUMBER);
        error("b3;e0,1;", 3, NUMBER);
        error("b3;e0;", 3, NUMBER);
        error("b3;e0,1,5,6;", 3, NUMBER);
        error("b3;e0;1;5;", 3, NUMBER);
        error("b3;e0,1,1000;", 3, NUMBER);
        error("b3;e0000,1,5;", 3, NUMBER);
        error("b3;e0,0001,5;", 3, NUMBER);
        error("b3;e0,1,5:a0;", 3, NUMBER);
        error("b3;a0,1;", 3, NUMBER);
        error("b3;a", 3, NUMBER);
        error("b3;a;", 3, NUMBER);
        error("b3;a0", 3, NUMBER);
        error("b3;a0001;", 3, NUMBER);
        error("b3;e0,1,5;a0", 10, NUMBER);
    }

    private static void errorsOfRange() {
        error("b0;", 0, RANGE);
        error("b1;", 0, RANGE);
        error("b11;", 0, RANGE);
        error("b999;", 0, RANGE);
        error("b3;e3,1,5;", 3, RANGE);
        error("b3;e0,3,5;", 3, RANGE);
        error("b3;e0,999,5;", 3, RANGE);
        error("b3;e999,1,5;", 3, RANGE);
        error("b3;e1,1,5;", 3, RANGE);
        error("b3;e0,0,5;", 3, RANGE);
        error("b3;e1,0,5;", 3, RANGE);
        error("b3;e2,1,5;", 3, RANGE);
        error("b3;e2,2,5;", 3, RANGE);
        error("b3;a2;", 3, RANGE);
        error("b3;a3;", 3, RANGE);
        error("b3;a999;", 3, RANGE);
        error("b10;e9,1,5;", 4, RANGE);
        error("b10;e0,10,5;", 4, RANGE);
        error("b10;a9;", 4, RANGE);
    }

    private static void errorsOfRepetitionAndRoom() {
        error("b3;a1;a1;", 6, REPEATED);
        error("b3;a1;a0;a001;", 9, REPEATED);
        error("b3;a1;e0,1,5;a1;", 13, REPEATED);
        error("b3;" + "e0,1,1;".repeat(21), 143, FULL);
        error("b3;" + "e0,1,1;".repeat(20) + "a0;", 143, FULL);
        error("b3;a0;" + "e0,1,1;".repeat(19) + "e0,2,7;", 139, FULL);
        error("b3;" + "e0,1,1;".repeat(19) + "a0;a1;", 139, FULL);
    }

    private static void orderOfErrors() {
        String full = "b3;" + "e0,1,1;".repeat(19) + "a0;";
        error(full + "a0;", 139, REPEATED);
        error(full + "a2;", 139, RANGE);
        error(full + "e1,0,1;", 139, RANGE);
        error(full + "e1,0,1", 139, NUMBER);
        error(full + "b3;", 139, KIND);
        error("b3;a1;a1", 6, NUMBER);
        error("b99", 0, NUMBER);
        error("b3;e9,9,9", 3, NUMBER);
        error("b3;e9,9,9999;", 3, NUMBER);
        error("b3;b99", 3, KIND);
        error("b1;x", 0, RANGE);
        error("b3;e0,9,1;a0;a0;", 3, RANGE);
    }

    private static void configureTakesCompleteGraphs() {
        taken("b2;e0,1,7;", 2, 1);
        taken("b2;a0;", 2, 1);
        taken("b3;e0,1,7;a1;", 3, 2);
        taken("b3;" + "e0,1,1;".repeat(18) + "a0;a1;", 3, 20);
        // The exit hangs on the return edge alone, and the blocks 1 and 2 lead round for ever.
        taken("b4;e0,1,1;e1,2,1;e2,1,1;", 4, 3);
        // Block 2 is reached against the direction of its edge only.
        taken("b4;e0,1,1;e1,3,1;e2,1,1;", 4, 3);
        taken("b4;e0,3,1;e1,3,1;e2,3,1;", 4, 3);
        taken("b10;e0,1,1;e1,2,1;e2,3,1;e3,4,1;e4,5,1;e5,6,1;e6,7,1;e7,8,1;a8;", 10, 9);
    }

    private static void taken(String text, int blocks, int edges) {
        EdgeCounterPlacer x = new EdgeCounterPlacer();
        Texts.put(x, text);
        DUE.equal("configure() by " + text, x.configure(), edges);
        DUE.equal("blockCount() by " + text, x.blockCount(), blocks);
        DUE.equal("the text stays: " + text, x.configure(), edges);
        DUE.equal("clearText() of " + text, x.clearText(), text.length());
        DUE.equal("blockCount() after clearText()", x.blockCount(), blocks);
    }

    private static void configureRefuses() {
        refused("");
        refused("b2;");
        refused("b3;");
        refused("b3;e0,1,7;");
        refused("b3;e1,2,7;");
        refused("b3;a0;");
        refused("b3;e0,1,7;e1,2,7;x");
        refused("b3;e0,1,7;e1,2,7");
        // Every block has an edge, but 1 and 2 hang together alone.
        refused("b4;e0,3,5;e1,2,5;e2,1,5;");
        refused("b6;e0,1,5;e1,5,5;e2,3,5;e3,4,5;e4,2,5;");
    }

    private static void refused(String text) {
        EdgeCounterPlacer x = new EdgeCounterPlacer();
        Texts.put(x, text);
        DUE.equal("configure() by " + text, x.configure(), EdgeCounterPlacer.NOT_POSSIBLE);
        DUE.equal("the text stays: " + text, x.clearText(), text.length());
    }

    private static void configureStartsAnew() {
        EdgeCounterPlacer x = new EdgeCounterPlacer();
        x.setWeight(0, 1);
        x.setCounterLimit(1);
        x.follow(0);
        Texts.put(x, "b3;e0,1,7;e1,2,8;a1;");
        DUE.equal("configure()", x.configure(), 3);
        DUE.equal("presentBlock()", x.presentBlock(), 0);
        DUE.equal("finishedRuns()", x.finishedRuns(), 0);
        DUE.equal("undo()", x.undo(), EdgeCounterPlacer.NOT_POSSIBLE);
        int[][] edges = {{0, 1, 7, 0}, {1, 2, 8, 0}, {1, 2, 0, 1}};
        for (int edge = 0; edge < edges.length; edge++) {
            DUE.equal("sourceOf(" + edge + ")", x.sourceOf(edge), edges[edge][0]);
            DUE.equal("targetOf(" + edge + ")", x.targetOf(edge), edges[edge][1]);
            DUE.equal("weightOf(" + edge + ")", x.weightOf(edge), edges[edge][2]);
            DUE.equal("trueCount(" + edge + ")", x.trueCount(edge), 0);
            DUE.equal("reconstruct(" + edge + ")", x.reconstruct(edge), 0);
        }
        DUE.equal("weightOf(3)", x.weightOf(3), EdgeCounterPlacer.INVALID_ARGUMENT);
        DUE.equal("setCounterLimit(5)", x.setCounterLimit(5), 60000);
        DUE.equal("setWeight(2, 5)", x.setWeight(2, 5), 0);
        DUE.equal("configure() again", x.configure(), 3);
        DUE.equal("weightOf(2) as stated", x.weightOf(2), 0);
        DUE.equal("the limit is back", x.setCounterLimit(1), 60000);
    }

    private static void failedConfigureChangesNothing() {
        EdgeCounterPlacer x = new EdgeCounterPlacer();
        x.setWeight(7, 300);
        x.follow(0);
        Texts.put(x, "b3;e0,1,7;");
        DUE.equal("configure()", x.configure(), EdgeCounterPlacer.NOT_POSSIBLE);
        x.firstError();
        DUE.equal("blockCount()", x.blockCount(), 6);
        DUE.equal("weightOf(7)", x.weightOf(7), 300);
        DUE.equal("presentBlock()", x.presentBlock(), 1);
        DUE.equal("trueCount(0)", x.trueCount(0), 1);
        DUE.equal("undo()", x.undo(), 1);
        DUE.equal("undo()", x.undo(), 0);
        DUE.equal("weightOf(7) undone", x.weightOf(7), 10);
    }
}

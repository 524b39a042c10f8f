/** The five examples of the document, to the letter. */
public final class ExamplesTest {
    private static final Due DUE = new Due("ExamplesTest");

    public static void main(String[] args) {
        initialPlacement();
        runBeforeItEnds();
        errors();
        saturatedCounters();
        statementWithTooFewNumbers();
        DUE.close();
    }

    private static void initialPlacement() {
        EdgeCounterPlacer x = new EdgeCounterPlacer();
        DUE.equal("counterCount()", x.counterCount(), 4);
        DUE.equal("placementCost()", x.placementCost(), 105);
        DUE.equal("hasCounter(2)", x.hasCounter(2), 0);
        DUE.equal("hasCounter(0)", x.hasCounter(0), 0);
        DUE.equal("coefficient(0, 7)", x.coefficient(0, 7), 1);
        DUE.equal("coefficient(3, 6)", x.coefficient(3, 6), -104);
    }

    private static void runBeforeItEnds() {
        EdgeCounterPlacer x = new EdgeCounterPlacer();
        DUE.equal("follow(0)", x.follow(0), 1);
        DUE.equal("follow(1)", x.follow(1), 2);
        DUE.equal("follow(3)", x.follow(3), 4);
        DUE.equal("reconstruct(0)", x.reconstruct(0), 1);
        DUE.equal("trueCount(0)", x.trueCount(0), 1);
        DUE.equal("follow(7)", x.follow(7), 0);
        DUE.equal("finishedRuns()", x.finishedRuns(), 1);
        DUE.equal("reconstruct(0)", x.reconstruct(0), 1);
        DUE.equal("executions(5)", x.executions(5), 1);
    }

    private static void errors() {
        EdgeCounterPlacer x = new EdgeCounterPlacer();
        DUE.equal("follow(3)", x.follow(3), -102);
        DUE.equal("follow(8)", x.follow(8), -101);
        DUE.equal("counter(0)", x.counter(0), -104);
        DUE.equal("coefficient(7, 2)", x.coefficient(7, 2), -104);
        DUE.equal("undo()", x.undo(), -102);
    }

    private static void saturatedCounters() {
        EdgeCounterPlacer x = new EdgeCounterPlacer();
        DUE.equal("setCounterLimit(2)", x.setCounterLimit(2), 60000);
        DUE.equal("drive(1, 100)", x.drive(1, 100), 20);
        DUE.equal("saturatedCount()", x.saturatedCount(), 4);
        DUE.equal("reconstruct(7)", x.reconstruct(7), -105);
        DUE.equal("reconstruct(0)", x.reconstruct(0), -105);
        DUE.equal("adoptCounts()", x.adoptCounts(), -105);
    }

    private static void statementWithTooFewNumbers() {
        EdgeCounterPlacer x = new EdgeCounterPlacer();
        DUE.equal("clearText()", x.clearText(), 0);
        int[] characters = {98, 51, 59, 101, 48, 44, 49, 59};
        for (int i = 0; i < characters.length; i++) {
            DUE.equal("append(" + characters[i] + ")", x.append(characters[i]), i + 1);
        }
        DUE.equal("firstError()", x.firstError(), 3);
        DUE.equal("errorReason()", x.errorReason(), 2);
        DUE.equal("configure()", x.configure(), -102);
    }
}

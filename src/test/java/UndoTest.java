/** Promise 12: undo takes back the newest 4 changes, the newest first. */
public final class UndoTest {
    private static final Due DUE = new Due("UndoTest");
    private static final int NOT_POSSIBLE = EdgeCounterPlacer.NOT_POSSIBLE;

    public static void main(String[] args) {
        eachKindOfChange();
        atMostFour();
        changesAfterUndo();
        changesThatLeaveAllAsItWas();
        refusedCallsAreNoChanges();
        questionsAreNoChanges();
        textIsNotUndone();
        configureForgets();
        DUE.close();
    }

    /** What is asked of an object all the time would be more than its 512 calls, so this stands alone. */
    private static String coefficients(EdgeCounterPlacer x) {
        StringBuilder state = new StringBuilder();
        for (int edge = 0; edge < 8; edge++) {
            state.append(x.dependents(edge)).append(' ');
            for (int chord = 0; chord < 8; chord++) {
                state.append(x.coefficient(edge, chord)).append(' ');
            }
        }
        return state.append(x.costShareBits()).toString();
    }

    private static EdgeCounterPlacer inTheMiddle() {
        EdgeCounterPlacer x = new EdgeCounterPlacer();
        x.setCounterLimit(40);
        x.setWeight(7, 95);
        x.drive(17, 60);
        x.follow(x.presentBlock() == 0 ? 0 : x.presentBlock() == 1 ? 1 : x.presentBlock() == 2 ? 3 : 5);
        return x;
    }

    private static int change(EdgeCounterPlacer x, int kind) {
        switch (kind) {
            case 0: return x.setWeight(1, 999);
            case 1: return x.setCounterLimit(300);
            case 2: return followAny(x);
            case 3: return x.drive(8, 90);
            default: return x.adoptCounts();
        }
    }

    private static int followAny(EdgeCounterPlacer x) {
        for (int edge = 0; edge < 8; edge++) {
            int block = x.follow(edge);
            if (block >= 0) {
                return block;
            }
        }
        return NOT_POSSIBLE;
    }

    private static void eachKindOfChange() {
        for (int kind = 0; kind < 5; kind++) {
            EdgeCounterPlacer x = inTheMiddle();
            String before = State.of(x);
            DUE.holds("change " + kind + " succeeds", change(x, kind) >= 0);
            DUE.holds("change " + kind + " is seen", !State.of(x).equals(before));
            DUE.equal("undo() of change " + kind, x.undo(), 3);
            DUE.holds("all is as before change " + kind, State.of(x).equals(before));
            DUE.holds("the coefficients are as before change " + kind, coefficients(x).equals(coefficients(inTheMiddle())));
            DUE.equal("the limit after undo() of change " + kind, x.setCounterLimit(7), 40);
        }
    }

    private static EdgeCounterPlacer after(int changes) {
        EdgeCounterPlacer x = new EdgeCounterPlacer();
        for (int change = 0; change < changes; change++) {
            DUE.holds("change " + change + " succeeds", change(x, change % 5) >= 0);
        }
        return x;
    }

    private static void atMostFour() {
        for (int changes = 5; changes <= 10; changes++) {
            EdgeCounterPlacer x = after(changes);
            for (int left = 3; left >= 0; left--) {
                int before = changes - 4 + left;
                DUE.equal("undo()", x.undo(), left);
                DUE.holds("all is as before change " + before, State.of(x).equals(State.of(after(before))));
            }
            DUE.equal("undo() of the fifth", x.undo(), NOT_POSSIBLE);
            DUE.holds("a refused undo() changes nothing", State.of(x).equals(State.of(after(changes - 4))));
        }
    }

    private static void changesAfterUndo() {
        EdgeCounterPlacer x = new EdgeCounterPlacer();
        for (int weight = 1; weight <= 6; weight++) {
            x.setWeight(0, weight);
        }
        DUE.equal("undo()", x.undo(), 3);
        DUE.equal("undo()", x.undo(), 2);
        x.setWeight(0, 50);
        DUE.equal("undo() of the new change", x.undo(), 2);
        DUE.equal("weightOf(0)", x.weightOf(0), 4);
        x.setWeight(0, 51);
        x.setWeight(0, 52);
        x.setWeight(0, 53);
        int[] weights = {52, 51, 4, 3};
        for (int i = 0; i < 4; i++) {
            DUE.equal("undo()", x.undo(), 3 - i);
            DUE.equal("weightOf(0)", x.weightOf(0), weights[i]);
        }
        DUE.equal("undo()", x.undo(), NOT_POSSIBLE);
        x.setWeight(0, 60);
        DUE.equal("undo() after all were undone", x.undo(), 0);
        DUE.equal("weightOf(0)", x.weightOf(0), 3);
    }

    private static void changesThatLeaveAllAsItWas() {
        EdgeCounterPlacer x = new EdgeCounterPlacer();
        x.setWeight(0, 100);
        x.setCounterLimit(60000);
        DUE.equal("undo()", x.undo(), 1);
        DUE.equal("undo()", x.undo(), 0);
        EdgeCounterPlacer none = Texts.configured("b2;e0,1,0;");
        DUE.equal("adoptCounts()", none.adoptCounts(), 0);
        DUE.equal("undo() of adoptCounts()", none.undo(), 0);
        DUE.equal("undo()", none.undo(), NOT_POSSIBLE);
    }

    private static void refusedCallsAreNoChanges() {
        EdgeCounterPlacer x = new EdgeCounterPlacer();
        x.follow(0);
        x.setWeight(8, 1);
        x.setWeight(0, 1000);
        x.setCounterLimit(0);
        x.follow(0);
        x.follow(8);
        x.drive(-1, 1);
        x.drive(1, 501);
        DUE.equal("undo()", x.undo(), 0);
        DUE.equal("undo()", x.undo(), NOT_POSSIBLE);
        x.setCounterLimit(1);
        x.drive(1, 100);
        x.adoptCounts();
        DUE.equal("undo() after a refused adoptCounts()", x.undo(), 1);
    }

    private static void questionsAreNoChanges() {
        EdgeCounterPlacer x = new EdgeCounterPlacer();
        x.follow(0);
        State.of(x);
        coefficients(x);
        x.firstError();
        x.errorReason();
        DUE.equal("undo()", x.undo(), 0);
    }

    private static void textIsNotUndone() {
        EdgeCounterPlacer x = new EdgeCounterPlacer();
        x.append('b');
        x.follow(0);
        x.append('2');
        DUE.equal("undo()", x.undo(), 0);
        DUE.equal("append(59)", x.append(';'), 3);
        x.follow(0);
        DUE.equal("clearText()", x.clearText(), 3);
        DUE.equal("undo()", x.undo(), 0);
        DUE.equal("the text stays empty", x.clearText(), 0);
    }

    private static void configureForgets() {
        EdgeCounterPlacer x = new EdgeCounterPlacer();
        x.follow(0);
        x.follow(1);
        Texts.put(x, "b2;e0,1,7;e0,1,9;");
        DUE.equal("configure()", x.configure(), 2);
        DUE.equal("undo()", x.undo(), NOT_POSSIBLE);
        x.follow(1);
        DUE.equal("undo()", x.undo(), 0);
        DUE.equal("undo()", x.undo(), NOT_POSSIBLE);
        DUE.equal("blockCount()", x.blockCount(), 2);
    }
}

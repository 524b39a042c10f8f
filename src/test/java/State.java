import java.util.function.Consumer;
import java.util.function.Supplier;

/** All that can be asked of a placer, as a text to compare, within the calls that an object has. */
final class State {
    private State() {
    }

    /** Graph, weights, placement, counts and run; not the limit, the changes and the graph text. */
    static String of(EdgeCounterPlacer x) {
        StringBuilder state = new StringBuilder();
        add(state, x.blockCount(), x.placementCost(), x.saturatedCount(), x.presentBlock(), x.finishedRuns());
        int source = x.sourceOf(0);
        for (int edge = 0; source >= 0; edge++) {
            add(state, source, x.targetOf(edge), x.weightOf(edge), x.counter(edge), x.trueCount(edge), x.reconstruct(edge));
            source = x.sourceOf(edge + 1);
        }
        return state.toString();
    }

    /**
     * All of the state of what is made and then called, the changes that can be undone, the limit and
     * the graph text included. To ask for these changes the object, so each has a new one.
     */
    static String whole(Supplier<EdgeCounterPlacer> made, Consumer<EdgeCounterPlacer> call) {
        StringBuilder state = new StringBuilder();
        EdgeCounterPlacer x = called(made, call);
        state.append(of(x));
        for (int undone = x.undo(); undone >= 0; undone = x.undo()) {
            state.append("; undo ").append(undone).append(' ').append(of(x));
        }
        x = called(made, call);
        state.append("; limit ").append(x.setCounterLimit(1));
        x = called(made, call);
        state.append("; text ");
        add(state, x.firstError(), x.errorReason(), x.configure(), x.clearText());
        return state.append(of(x)).toString();
    }

    private static EdgeCounterPlacer called(Supplier<EdgeCounterPlacer> made, Consumer<EdgeCounterPlacer> call) {
        EdgeCounterPlacer x = made.get();
        call.accept(x);
        return x;
    }

    private static void add(StringBuilder state, int... answers) {
        for (int answer : answers) {
            state.append(answer).append(' ');
        }
    }
}

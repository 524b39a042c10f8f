import java.util.ArrayDeque;
import java.util.ArrayList;
import java.util.Collections;
import java.util.Comparator;
import java.util.HashSet;
import java.util.List;
import java.util.Set;
import java.util.regex.Matcher;
import java.util.regex.Pattern;

/**
 * The document once more, written as plainly as the Java library allows and by other ways than the
 * program: patterns for the text, paths in the tree for the coefficients, whole copies for undo.
 */
final class PlainPlacer {
    record Edge(int from, int to) {
    }

    record State(List<Integer> weights, List<Integer> counters, List<Integer> counts, int limit, int present,
        int finished) {
    }

    private static final class Malformed extends Exception {
        private static final long serialVersionUID = 1L;
        final int place;
        final int reason;

        Malformed(int place, int reason) {
            this.place = place;
            this.reason = reason;
        }
    }

    private static final Pattern ONE = Pattern.compile(".([0-9]{1,3});.*");
    private static final Pattern THREE = Pattern.compile(".([0-9]{1,3}),([0-9]{1,3}),([0-9]{1,3});.*");

    private String text = "";
    private int blocks;
    private List<Edge> edges;
    private State state;
    private final ArrayDeque<State> before = new ArrayDeque<>();

    private int readBlocks;
    private List<Edge> readEdges;
    private List<Integer> readWeights;

    PlainPlacer() {
        text = "b6;e0,1,100;e1,2,60;e1,3,40;e2,4,60;e3,4,35;a3;e4,1,90;e4,5,10;";
        configure();
        text = "";
    }

    // ---- the graph text

    int append(int character) {
        if (character < 32 || character > 126) return -101;
        if (text.length() == 200) return -103;
        text += (char) character;
        return text.length();
    }

    int clearText() {
        int length = text.length();
        text = "";
        return length;
    }

    int firstError() {
        try {
            read();
            return -104;
        } catch (Malformed malformed) {
            return malformed.place;
        }
    }

    int errorReason() {
        try {
            read();
            return -104;
        } catch (Malformed malformed) {
            return malformed.reason;
        }
    }

    int configure() {
        try {
            read();
        } catch (Malformed malformed) {
            return -102;
        }
        if (text.isEmpty() || !isComplete()) return -102;
        blocks = readBlocks;
        edges = readEdges;
        before.clear();
        state = fresh(readWeights, 60000);
        return edges.size();
    }

    private void read() throws Malformed {
        readBlocks = 0;
        readEdges = new ArrayList<>();
        readWeights = new ArrayList<>();
        Set<Integer> aborting = new HashSet<>();
        int place = 0;
        while (place < text.length()) {
            String rest = text.substring(place);
            char letter = rest.charAt(0);
            if ("bea".indexOf(letter) < 0 || (letter == 'b') != (place == 0)) throw new Malformed(place, 1);
            Matcher matcher = (letter == 'e' ? THREE : ONE).matcher(rest);
            if (!matcher.matches()) throw new Malformed(place, 2);
            int first = Integer.parseInt(matcher.group(1));
            if (letter == 'b') {
                if (first < 2 || first > 10) throw new Malformed(place, 3);
                readBlocks = first;
            } else if (letter == 'e') {
                int to = Integer.parseInt(matcher.group(2));
                boolean right = first < readBlocks - 1 && to > 0 && to < readBlocks && first != to;
                if (!right) throw new Malformed(place, 3);
                if (readEdges.size() == 20) throw new Malformed(place, 5);
                readEdges.add(new Edge(first, to));
                readWeights.add(Integer.parseInt(matcher.group(3)));
            } else {
                if (first >= readBlocks - 1) throw new Malformed(place, 3);
                if (!aborting.add(first)) throw new Malformed(place, 4);
                if (readEdges.size() == 20) throw new Malformed(place, 5);
                readEdges.add(new Edge(first, readBlocks - 1));
                readWeights.add(0);
            }
            place += rest.indexOf(';') + 1;
        }
    }

    private boolean isComplete() {
        for (int block = 0; block < readBlocks - 1; block++) {
            int from = block;
            if (readEdges.stream().noneMatch(edge -> edge.from == from)) return false;
        }
        List<Edge> all = new ArrayList<>(readEdges);
        all.add(new Edge(readBlocks - 1, 0));
        for (int block = 0; block < readBlocks; block++) {
            if (path(all, 0, block) == null) return false;
        }
        return true;
    }

    /** A way from one block to another: +1 + i for edge i in its direction, -1 - i against it. */
    private static List<Integer> path(List<Edge> some, int from, int to) {
        return path(some, from, to, new HashSet<>());
    }

    private static List<Integer> path(List<Edge> some, int from, int to, Set<Integer> seen) {
        if (from == to) return new ArrayList<>();
        seen.add(from);
        for (int i = 0; i < some.size(); i++) {
            Edge edge = some.get(i);
            if (edge == null || (edge.from != from && edge.to != from)) continue;
            int next = edge.from == from ? edge.to : edge.from;
            if (seen.contains(next)) continue;
            List<Integer> rest = path(some, next, to, seen);
            if (rest != null) {
                rest.add(edge.from == from ? 1 + i : -1 - i);
                return rest;
            }
        }
        return null;
    }

    // ---- the tree

    /** The tree edges at their numbers, null for chords, and the return edge behind them. */
    private List<Edge> tree() {
        List<Edge> tree = new ArrayList<>(Collections.nCopies(edges.size(), null));
        tree.add(new Edge(blocks - 1, 0));
        List<Integer> order = new ArrayList<>();
        for (int edge = 0; edge < edges.size(); edge++) order.add(edge);
        order.sort(Comparator.comparing((Integer edge) -> -state.weights.get(edge)).thenComparing(edge -> edge));
        for (int edge : order) {
            if (path(tree, edges.get(edge).from, edges.get(edge).to) == null) tree.set(edge, edges.get(edge));
        }
        return tree;
    }

    private boolean isChord(int edge) {
        return tree().get(edge) == null;
    }

    /** A flow over a chord goes back to the chord's source through the tree. */
    private int factor(int treeEdge, Edge chord) {
        List<Integer> way = path(tree(), chord.to, chord.from);
        return way.contains(1 + treeEdge) ? 1 : way.contains(-1 - treeEdge) ? -1 : 0;
    }

    // ---- changes

    private State fresh(List<Integer> weights, int limit) {
        List<Integer> zeros = Collections.nCopies(edges.size(), 0);
        return new State(weights, zeros, zeros, limit, 0, 0);
    }

    private void become(State next) {
        before.push(state);
        if (before.size() > 4) before.removeLast();
        state = next;
    }

    int setWeight(int edge, int weight) {
        if (isNoEdge(edge) || weight < 0 || weight > 999) return -101;
        List<Integer> weights = new ArrayList<>(state.weights);
        int previous = weights.set(edge, weight);
        become(fresh(weights, state.limit));
        return previous;
    }

    int setCounterLimit(int limit) {
        if (limit < 1 || limit > 60000) return -101;
        int previous = state.limit;
        become(fresh(state.weights, limit));
        return previous;
    }

    int follow(int edge) {
        if (isNoEdge(edge)) return -101;
        if (edges.get(edge).from != state.present) return -102;
        become(passed(state, edge, tree()));
        return state.present;
    }

    private State passed(State from, int edge, List<Edge> tree) {
        List<Integer> counts = new ArrayList<>(from.counts);
        counts.set(edge, counts.get(edge) + 1);
        List<Integer> counters = new ArrayList<>(from.counters);
        if (tree.get(edge) == null) counters.set(edge, Math.min(counters.get(edge) + 1, from.limit));
        boolean ends = edges.get(edge).to == blocks - 1;
        return new State(from.weights, counters, counts, from.limit, ends ? 0 : edges.get(edge).to,
            from.finished + (ends ? 1 : 0));
    }

    int drive(int seed, int steps) {
        if (seed < 0 || seed > 9999 || steps < 1 || steps > 500) return -101;
        List<Edge> tree = tree();
        State next = state;
        for (int step = 0; step < steps; step++) {
            List<Integer> leaving = new ArrayList<>();
            for (int edge = 0; edge < edges.size(); edge++) {
                if (edges.get(edge).from == next.present) leaving.add(edge);
            }
            long x = (7919L * seed + 6151L * step + 1) % 65521;
            next = passed(next, leaving.get((int) (x * x % 65521 % leaving.size())), tree);
        }
        int finished = next.finished - state.finished;
        become(next);
        return finished;
    }

    int adoptCounts() {
        List<Integer> weights = new ArrayList<>();
        int changed = 0;
        for (int edge = 0; edge < edges.size(); edge++) {
            int count = reconstruct(edge);
            if (count == -105) return -105;
            weights.add(Math.min(count, 999));
            if (!weights.get(edge).equals(state.weights.get(edge))) changed++;
        }
        become(fresh(weights, state.limit));
        return changed;
    }

    int undo() {
        if (before.isEmpty()) return -102;
        state = before.pop();
        return before.size();
    }

    // ---- questions

    private boolean isNoEdge(int edge) {
        return edge < 0 || edge >= edges.size();
    }

    int blockCount() {
        return blocks;
    }

    int sourceOf(int edge) {
        return isNoEdge(edge) ? -101 : edges.get(edge).from;
    }

    int targetOf(int edge) {
        return isNoEdge(edge) ? -101 : edges.get(edge).to;
    }

    int weightOf(int edge) {
        return isNoEdge(edge) ? -101 : state.weights.get(edge);
    }

    int hasCounter(int edge) {
        return isNoEdge(edge) ? -101 : isChord(edge) ? 1 : 0;
    }

    int counterCount() {
        return edges.size() - (blocks - 2);
    }

    int placementCost() {
        int cost = 0;
        for (int edge = 0; edge < edges.size(); edge++) cost += isChord(edge) ? state.weights.get(edge) : 0;
        return cost;
    }

    int costShareBits() {
        int sum = state.weights.stream().mapToInt(Integer::intValue).sum();
        return sum == 0 ? -104 : Float.floatToIntBits((float) placementCost() / (float) sum);
    }

    int counter(int edge) {
        return isNoEdge(edge) ? -101 : isChord(edge) ? state.counters.get(edge) : -104;
    }

    int trueCount(int edge) {
        return isNoEdge(edge) ? -101 : state.counts.get(edge);
    }

    int reconstruct(int edge) {
        if (isNoEdge(edge)) return -101;
        int sum = 0;
        boolean certain = true;
        if (!isChord(edge) && state.present != 0) sum += factor(edge, new Edge(state.present, blocks - 1));
        for (int chord = 0; chord < edges.size(); chord++) {
            if (!isChord(chord)) continue;
            int factor = isChord(edge) ? (chord == edge ? 1 : 0) : factor(edge, edges.get(chord));
            sum += factor * state.counters.get(chord);
            certain = certain && (factor == 0 || state.counters.get(chord) < state.limit);
        }
        return certain ? sum : -105;
    }

    int coefficient(int treeEdge, int chord) {
        if (isNoEdge(treeEdge) || isNoEdge(chord)) return -101;
        if (isChord(treeEdge) || !isChord(chord)) return -104;
        return factor(treeEdge, edges.get(chord));
    }

    int executions(int block) {
        if (block < 0 || block >= blocks) return -101;
        if (block == 0) return state.finished + (state.present == 0 ? 0 : 1);
        int sum = 0;
        for (int edge = 0; edge < edges.size(); edge++) {
            if (edges.get(edge).to != block) continue;
            int count = reconstruct(edge);
            if (count == -105) return -105;
            sum += count;
        }
        return sum;
    }

    int dependents(int chord) {
        if (isNoEdge(chord)) return -101;
        if (!isChord(chord)) return -104;
        int sum = 1;
        for (int edge = 0; edge < edges.size(); edge++) {
            if (!isChord(edge) && factor(edge, edges.get(chord)) != 0) sum++;
        }
        return sum;
    }

    int saturatedCount() {
        int sum = 0;
        for (int edge = 0; edge < edges.size(); edge++) {
            if (isChord(edge) && state.counters.get(edge) == state.limit) sum++;
        }
        return sum;
    }

    int presentBlock() {
        return state.present;
    }

    int finishedRuns() {
        return state.finished;
    }
}

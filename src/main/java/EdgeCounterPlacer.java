/**
 * A placer of edge profiling counters: it puts counters on the chords of a maximum-weight spanning
 * tree of a control flow graph, simulates runs, and reconstructs the counts of all edges from the
 * counters.
 *
 * <p>Everything that a call needs is made in the constructor and used again, so that no call makes
 * an object. Sets of blocks and sets of edges are the bits of an int (at most 10 and 20).
 */
public final class EdgeCounterPlacer {
    public static final int INVALID_ARGUMENT = -101;
    public static final int NOT_POSSIBLE = -102;
    public static final int CAPACITY_EXCEEDED = -103;
    public static final int NOT_FOUND = -104;
    public static final int UNCERTAIN = -105;
    public static final int REASON_KIND = 1, REASON_NUMBER = 2, REASON_RANGE = 3, REASON_REPEATED = 4, REASON_FULL = 5;

    private static final String FIRST_TEXT = "b6;e0,1,100;e1,2,60;e1,3,40;e2,4,60;e3,4,35;a3;e4,1,90;e4,5,10;";
    private static final int FEWEST_BLOCKS = 2;
    private static final int MOST_BLOCKS = 10;
    private static final int MOST_EDGES = 20;
    private static final int MOST_CHARACTERS = 200;
    private static final int MOST_WEIGHT = 999;
    private static final int MOST_LIMIT = 60000;
    private static final int MOST_SEED = 9999;
    private static final int MOST_STEPS = 500;
    private static final int MOST_CHANGES = 4;
    private static final int ENTRY = 0;
    private static final int NO_EDGE = -1;
    private static final int NO_REASON = 0;

    private final GraphText text;
    private final TextReader reader;
    private final Placement placement;
    private final Simulation simulation;
    private final History history;
    private Graph graph;
    private Graph draft;

    public EdgeCounterPlacer() {
        text = new GraphText();
        reader = new TextReader();
        placement = new Placement();
        simulation = new Simulation();
        history = new History();
        graph = new Graph();
        draft = new Graph();
        for (int i = 0; i < FIRST_TEXT.length(); i++) {
            text.add(FIRST_TEXT.charAt(i));
        }
        configure();
        text.clear();
    }

    public int append(int character) {
        if (character < 32 || character > 126) {
            return INVALID_ARGUMENT;
        }
        if (text.isFull()) {
            return CAPACITY_EXCEEDED;
        }
        text.add((char) character);
        return text.length();
    }

    public int clearText() {
        int length = text.length();
        text.clear();
        return length;
    }

    public int firstError() {
        reader.read(text, draft);
        return reader.reason() == NO_REASON ? NOT_FOUND : reader.errorPlace();
    }

    public int errorReason() {
        reader.read(text, draft);
        return reader.reason() == NO_REASON ? NOT_FOUND : reader.reason();
    }

    public int configure() {
        reader.read(text, draft);
        if (reader.reason() != NO_REASON || text.length() == 0 || !draft.isComplete()) {
            return NOT_POSSIBLE;
        }
        takeDraft();
        placement.begin(graph);
        simulation.begin();
        history.forget();
        return graph.edges();
    }

    public int setWeight(int edge, int weight) {
        if (!graph.hasEdge(edge) || weight < 0 || weight > MOST_WEIGHT) {
            return INVALID_ARGUMENT;
        }
        history.remember(placement, simulation);
        int previous = placement.weight(edge);
        placement.putWeight(edge, weight);
        placement.findTree(graph);
        simulation.restart();
        return previous;
    }

    public int setCounterLimit(int limit) {
        if (limit < 1 || limit > MOST_LIMIT) {
            return INVALID_ARGUMENT;
        }
        history.remember(placement, simulation);
        int previous = simulation.limit();
        simulation.putLimit(limit);
        simulation.restart();
        return previous;
    }

    public int follow(int edge) {
        if (!graph.hasEdge(edge)) {
            return INVALID_ARGUMENT;
        }
        if (graph.source(edge) != simulation.present()) {
            return NOT_POSSIBLE;
        }
        history.remember(placement, simulation);
        simulation.pass(edge, graph, placement);
        return simulation.present();
    }

    public int drive(int seed, int steps) {
        if (seed < 0 || seed > MOST_SEED || steps < 1 || steps > MOST_STEPS) {
            return INVALID_ARGUMENT;
        }
        history.remember(placement, simulation);
        int finishedBefore = simulation.finished();
        for (int step = 0; step < steps; step++) {
            simulation.pass(chosenEdge(seed, step), graph, placement);
        }
        return simulation.finished() - finishedBefore;
    }

    public int adoptCounts() {
        if (anyIsUncertain()) {
            return UNCERTAIN;
        }
        history.remember(placement, simulation);
        int changed = 0;
        for (int edge = 0; edge < graph.edges(); edge++) {
            // The tree and the counters stay until all weights are taken, so the counts stay too.
            int weight = Math.min(reconstructedCount(edge), MOST_WEIGHT);
            if (weight != placement.weight(edge)) {
                changed++;
            }
            placement.putWeight(edge, weight);
        }
        placement.findTree(graph);
        simulation.restart();
        return changed;
    }

    public int undo() {
        if (history.isEmpty()) {
            return NOT_POSSIBLE;
        }
        history.takeBack(placement, simulation);
        return history.size();
    }

    public int blockCount() {
        return graph.blocks();
    }

    public int sourceOf(int edge) {
        return graph.hasEdge(edge) ? graph.source(edge) : INVALID_ARGUMENT;
    }

    public int targetOf(int edge) {
        return graph.hasEdge(edge) ? graph.target(edge) : INVALID_ARGUMENT;
    }

    public int weightOf(int edge) {
        return graph.hasEdge(edge) ? placement.weight(edge) : INVALID_ARGUMENT;
    }

    public int hasCounter(int edge) {
        if (!graph.hasEdge(edge)) {
            return INVALID_ARGUMENT;
        }
        return placement.isInTree(edge) ? 0 : 1;
    }

    public int counterCount() {
        int counters = 0;
        for (int edge = 0; edge < graph.edges(); edge++) {
            if (!placement.isInTree(edge)) {
                counters++;
            }
        }
        return counters;
    }

    public int placementCost() {
        int cost = 0;
        for (int edge = 0; edge < graph.edges(); edge++) {
            if (!placement.isInTree(edge)) {
                cost += placement.weight(edge);
            }
        }
        return cost;
    }

    public int costShareBits() {
        int sum = 0;
        for (int edge = 0; edge < graph.edges(); edge++) {
            sum += placement.weight(edge);
        }
        if (sum <= 0) {
            return NOT_FOUND;
        }
        return bitsOfShare((float) placementCost() / (float) sum);
    }

    public int counter(int edge) {
        if (!graph.hasEdge(edge)) {
            return INVALID_ARGUMENT;
        }
        return placement.isInTree(edge) ? NOT_FOUND : simulation.counterValue(edge);
    }

    public int trueCount(int edge) {
        return graph.hasEdge(edge) ? simulation.passes(edge) : INVALID_ARGUMENT;
    }

    public int reconstruct(int edge) {
        if (!graph.hasEdge(edge)) {
            return INVALID_ARGUMENT;
        }
        return isUncertain(edge) ? UNCERTAIN : reconstructedCount(edge);
    }

    public int coefficient(int treeEdge, int chord) {
        if (!graph.hasEdge(treeEdge) || !graph.hasEdge(chord)) {
            return INVALID_ARGUMENT;
        }
        if (!placement.isInTree(treeEdge) || placement.isInTree(chord)) {
            return NOT_FOUND;
        }
        return factorOfChord(treeEdge, chord);
    }

    public int executions(int block) {
        if (!graph.hasBlock(block)) {
            return INVALID_ARGUMENT;
        }
        if (block == ENTRY) {
            return simulation.finished() + (simulation.present() == ENTRY ? 0 : 1);
        }
        int entered = 0;
        for (int edge = 0; edge < graph.edges(); edge++) {
            if (graph.target(edge) == block) {
                if (isUncertain(edge)) {
                    return UNCERTAIN;
                }
                entered += reconstructedCount(edge);
            }
        }
        return entered;
    }

    public int dependents(int chord) {
        if (!graph.hasEdge(chord)) {
            return INVALID_ARGUMENT;
        }
        if (placement.isInTree(chord)) {
            return NOT_FOUND;
        }
        int needing = 1;
        for (int edge = 0; edge < graph.edges(); edge++) {
            if (placement.isInTree(edge) && factorOfChord(edge, chord) != 0) {
                needing++;
            }
        }
        return needing;
    }

    public int saturatedCount() {
        int saturated = 0;
        for (int edge = 0; edge < graph.edges(); edge++) {
            if (isSaturatedChord(edge)) {
                saturated++;
            }
        }
        return saturated;
    }

    public int presentBlock() {
        return simulation.present();
    }

    public int finishedRuns() {
        return simulation.finished();
    }

    /** The draft becomes the graph; the old graph is the room for the next draft. */
    private void takeDraft() {
        Graph taken = draft;
        draft = graph;
        graph = taken;
    }

    private int chosenEdge(int seed, int step) {
        long x = 7919L * seed + 6151L * step + 1L;
        long r = (x * x) % 65521L;
        int choices = graph.leavingCount(simulation.present());
        if (choices <= 0) {
            return NO_EDGE;
        }
        return graph.leavingEdge(simulation.present(), (int) (r % choices));
    }

    private int factorOfChord(int treeEdge, int chord) {
        return placement.factor(treeEdge, graph.source(chord), graph.target(chord));
    }

    private boolean isSaturatedChord(int edge) {
        return !placement.isInTree(edge) && simulation.isAtLimit(edge);
    }

    private boolean isUncertain(int edge) {
        if (!placement.isInTree(edge)) {
            return isSaturatedChord(edge);
        }
        for (int chord = 0; chord < graph.edges(); chord++) {
            if (isSaturatedChord(chord) && factorOfChord(edge, chord) != 0) {
                return true;
            }
        }
        return false;
    }

    private boolean anyIsUncertain() {
        for (int edge = 0; edge < graph.edges(); edge++) {
            if (isUncertain(edge)) {
                return true;
            }
        }
        return false;
    }

    private int reconstructedCount(int edge) {
        if (!placement.isInTree(edge)) {
            return simulation.counterValue(edge);
        }
        int count = openEdgeShare(edge);
        for (int chord = 0; chord < graph.edges(); chord++) {
            if (!placement.isInTree(chord)) {
                count += factorOfChord(edge, chord) * simulation.counterValue(chord);
            }
        }
        return count;
    }

    /** The open edge leads from the present block to the exit, as a chord with the count 1 would. */
    private int openEdgeShare(int treeEdge) {
        if (simulation.present() == ENTRY) {
            return 0;
        }
        return placement.factor(treeEdge, simulation.present(), graph.exit());
    }

    /**
     * The bits of a float from 0 to 1, by arithmetic, since Float.floatToIntBits is not in the
     * library of the language. A share that is not 0 is at least 1 / 19980 here: it is never
     * subnormal, and each doubling is exact.
     */
    private static int bitsOfShare(float share) {
        if (share <= 0f) {
            return 0;
        }
        int exponent = 127;
        float fraction = share;
        while (fraction < 1f && exponent > 1) {
            fraction = fraction * 2f;
            exponent--;
        }
        return (exponent << 23) + (int) ((fraction - 1f) * 8388608f);
    }

    private static boolean holds(int set, int member) {
        return (set & (1 << member)) != 0;
    }

    /** The characters that were appended. */
    private static final class GraphText {
        private final char[] characters = new char[MOST_CHARACTERS];
        private int length;

        int length() {
            return length;
        }

        boolean isFull() {
            return length >= MOST_CHARACTERS;
        }

        void add(char character) {
            if (!isFull()) {
                characters[length] = character;
                length++;
            }
        }

        void clear() {
            length = 0;
        }

        /** Behind the end stands a sign that no statement has, so that readers need no end test. */
        char at(int place) {
            return place >= 0 && place < length ? characters[place] : (char) 0;
        }
    }

    /** Reads a graph text into a graph, up to the first statement that has an error. */
    private static final class TextReader {
        private static final int MOST_NUMBERS = 3;
        private static final int MOST_DIGITS = 3;

        private final int[] numbers = new int[MOST_NUMBERS];
        private int place;
        private int aborting;
        private int errorPlace;
        private int reason;

        int errorPlace() {
            return errorPlace;
        }

        int reason() {
            return reason;
        }

        void read(GraphText text, Graph graph) {
            graph.begin(0);
            place = 0;
            aborting = 0;
            reason = NO_REASON;
            for (int statement = 0; statement < MOST_CHARACTERS; statement++) {
                if (place >= text.length() || reason != NO_REASON) {
                    return;
                }
                errorPlace = place;
                reason = readStatement(text, graph);
            }
        }

        private int readStatement(GraphText text, Graph graph) {
            char letter = text.at(place);
            boolean fits = place == 0 ? letter == 'b' : letter == 'e' || letter == 'a';
            if (!fits) {
                return REASON_KIND;
            }
            place++;
            if (!readNumbers(text, letter == 'e' ? 3 : 1)) {
                return REASON_NUMBER;
            }
            if (letter == 'b') {
                return takeBlocks(graph);
            }
            return letter == 'e' ? takeEdge(graph) : takeAbort(graph);
        }

        private boolean readNumbers(GraphText text, int wanted) {
            for (int i = 0; i < wanted && i < MOST_NUMBERS; i++) {
                int start = place;
                numbers[i] = readNumber(text);
                char behind = i == wanted - 1 ? ';' : ',';
                if (place == start || text.at(place) != behind) {
                    return false;
                }
                place++;
            }
            return true;
        }

        /** Stops behind the last digit that a number may have: a digit too many is no separator. */
        private int readNumber(GraphText text) {
            int number = 0;
            for (int digits = 0; digits < MOST_DIGITS; digits++) {
                char digit = text.at(place);
                if (digit < '0' || digit > '9') {
                    return number;
                }
                number = number * 10 + (digit - '0');
                place++;
            }
            return number;
        }

        private int takeBlocks(Graph graph) {
            int blocks = numbers[0];
            if (blocks < FEWEST_BLOCKS || blocks > MOST_BLOCKS) {
                return REASON_RANGE;
            }
            graph.begin(blocks);
            return NO_REASON;
        }

        private int takeEdge(Graph graph) {
            int from = numbers[0];
            int to = numbers[1];
            if (!graph.hasBlock(from) || !graph.hasBlock(to) || from == to) {
                return REASON_RANGE;
            }
            if (to == ENTRY || from == graph.exit()) {
                return REASON_RANGE;
            }
            if (graph.isFull()) {
                return REASON_FULL;
            }
            graph.addEdge(from, to, numbers[2]);
            return NO_REASON;
        }

        private int takeAbort(Graph graph) {
            int block = numbers[0];
            if (!graph.hasBlock(block) || block == graph.exit()) {
                return REASON_RANGE;
            }
            if (holds(aborting, block)) {
                return REASON_REPEATED;
            }
            if (graph.isFull()) {
                return REASON_FULL;
            }
            aborting |= 1 << block;
            graph.addEdge(block, graph.exit(), 0);
            return NO_REASON;
        }
    }

    /** Blocks and edges as the graph text states them. The return edge is known without a number. */
    private static final class Graph {
        private final int[] source = new int[MOST_EDGES];
        private final int[] target = new int[MOST_EDGES];
        private final int[] statedWeight = new int[MOST_EDGES];
        private final int[][] leaving = new int[MOST_BLOCKS][MOST_EDGES];
        private final int[] leavingCount = new int[MOST_BLOCKS];
        private int blocks;
        private int edges;

        void begin(int blockTotal) {
            blocks = blockTotal;
            edges = 0;
            for (int block = 0; block < MOST_BLOCKS; block++) {
                leavingCount[block] = 0;
            }
        }

        int blocks() {
            return blocks;
        }

        int edges() {
            return edges;
        }

        int exit() {
            return blocks - 1;
        }

        boolean hasBlock(int block) {
            return block >= 0 && block < blocks && block < MOST_BLOCKS;
        }

        boolean hasEdge(int edge) {
            return edge >= 0 && edge < edges && edge < MOST_EDGES;
        }

        boolean isFull() {
            return edges >= MOST_EDGES;
        }

        void addEdge(int from, int to, int weight) {
            int place = leavingCount(from);
            if (isFull() || !hasBlock(from) || !hasBlock(to) || place >= MOST_EDGES) {
                return;
            }
            source[edges] = from;
            target[edges] = to;
            statedWeight[edges] = weight;
            leaving[from][place] = edges;
            leavingCount[from] = place + 1;
            edges++;
        }

        int source(int edge) {
            return hasEdge(edge) ? source[edge] : ENTRY;
        }

        int target(int edge) {
            return hasEdge(edge) ? target[edge] : ENTRY;
        }

        int statedWeight(int edge) {
            return hasEdge(edge) ? statedWeight[edge] : 0;
        }

        int leavingCount(int block) {
            return hasBlock(block) ? leavingCount[block] : 0;
        }

        int leavingEdge(int block, int index) {
            if (index < 0 || index >= leavingCount(block) || index >= MOST_EDGES) {
                return NO_EDGE;
            }
            return leaving[block][index];
        }

        boolean isComplete() {
            for (int block = 0; block < exit(); block++) {
                if (leavingCount(block) == 0) {
                    return false;
                }
            }
            int allBlocks = (1 << blocks) - 1;
            int allEdges = (1 << edges) - 1;
            return blocks >= FEWEST_BLOCKS && reach(ENTRY, allEdges) == allBlocks;
        }

        /** The blocks that can be reached from a block by the return edge and these edges, both ways. */
        int reach(int start, int usableEdges) {
            int reached = 1 << start;
            int before = 0;
            for (int pass = 0; pass <= blocks && reached != before; pass++) {
                before = reached;
                reached = spread(reached, (1 << ENTRY) | (1 << exit()));
                for (int edge = 0; edge < edges; edge++) {
                    if (holds(usableEdges, edge)) {
                        reached = spread(reached, (1 << source(edge)) | (1 << target(edge)));
                    }
                }
            }
            return reached;
        }

        private int spread(int reached, int ends) {
            return (reached & ends) != 0 ? reached | ends : reached;
        }
    }

    /** The weights and the spanning tree that follows from them. */
    private static final class Placement {
        private final int[] weight = new int[MOST_EDGES];
        /** For a tree edge the blocks on its source's side when the edge is cut out of the tree. */
        private final int[] sourceSide = new int[MOST_EDGES];
        private int tree;

        void begin(Graph graph) {
            for (int edge = 0; edge < MOST_EDGES; edge++) {
                weight[edge] = graph.statedWeight(edge);
            }
            findTree(graph);
        }

        void copyFrom(Placement other) {
            for (int edge = 0; edge < MOST_EDGES; edge++) {
                weight[edge] = other.weight[edge];
                sourceSide[edge] = other.sourceSide[edge];
            }
            tree = other.tree;
        }

        int weight(int edge) {
            return edge >= 0 && edge < MOST_EDGES ? weight[edge] : 0;
        }

        void putWeight(int edge, int newWeight) {
            if (edge >= 0 && edge < MOST_EDGES) {
                weight[edge] = newWeight;
            }
        }

        boolean isInTree(int edge) {
            return holds(tree, edge);
        }

        void findTree(Graph graph) {
            tree = 0;
            int considered = 0;
            for (int turn = 0; turn < graph.edges(); turn++) {
                int edge = heaviestEdge(graph.edges(), considered);
                considered |= 1 << edge;
                if (!holds(graph.reach(graph.source(edge), tree), graph.target(edge))) {
                    tree |= 1 << edge;
                }
            }
            findSides(graph);
        }

        /** Of the edges not yet considered the heaviest, of several as heavy the first. */
        private int heaviestEdge(int edges, int considered) {
            int heaviest = 0;
            int most = -1;
            for (int edge = 0; edge < edges; edge++) {
                if (!holds(considered, edge) && weight(edge) > most) {
                    heaviest = edge;
                    most = weight(edge);
                }
            }
            return heaviest;
        }

        private void findSides(Graph graph) {
            for (int edge = 0; edge < MOST_EDGES; edge++) {
                sourceSide[edge] = 0;
                if (isInTree(edge)) {
                    sourceSide[edge] = graph.reach(graph.source(edge), tree & ~(1 << edge));
                }
            }
        }

        /**
         * The factor that an edge outside the tree has in the count of a tree edge. As much leaves the
         * tree edge's source side as comes into it, so what crosses with the tree edge is taken off
         * its count, and what crosses against it is added.
         */
        int factor(int treeEdge, int from, int to) {
            if (treeEdge < 0 || treeEdge >= MOST_EDGES) {
                return 0;
            }
            boolean leavesSide = holds(sourceSide[treeEdge], from);
            boolean endsInSide = holds(sourceSide[treeEdge], to);
            if (leavesSide == endsInSide) {
                return 0;
            }
            return leavesSide ? -1 : 1;
        }
    }

    /** The run with its counters, and the true counts beside them. */
    private static final class Simulation {
        private final int[] counterValue = new int[MOST_EDGES];
        private final int[] passes = new int[MOST_EDGES];
        private int limit;
        private int present;
        private int finished;

        void begin() {
            limit = MOST_LIMIT;
            restart();
        }

        void restart() {
            for (int edge = 0; edge < MOST_EDGES; edge++) {
                counterValue[edge] = 0;
                passes[edge] = 0;
            }
            present = ENTRY;
            finished = 0;
        }

        void copyFrom(Simulation other) {
            for (int edge = 0; edge < MOST_EDGES; edge++) {
                counterValue[edge] = other.counterValue[edge];
                passes[edge] = other.passes[edge];
            }
            limit = other.limit;
            present = other.present;
            finished = other.finished;
        }

        int limit() {
            return limit;
        }

        void putLimit(int newLimit) {
            limit = newLimit;
        }

        int present() {
            return present;
        }

        int finished() {
            return finished;
        }

        int counterValue(int edge) {
            return edge >= 0 && edge < MOST_EDGES ? counterValue[edge] : 0;
        }

        int passes(int edge) {
            return edge >= 0 && edge < MOST_EDGES ? passes[edge] : 0;
        }

        boolean isAtLimit(int edge) {
            return counterValue(edge) == limit;
        }

        void pass(int edge, Graph graph, Placement placement) {
            if (!graph.hasEdge(edge)) {
                return;
            }
            passes[edge]++;
            if (!placement.isInTree(edge) && !isAtLimit(edge)) {
                counterValue[edge]++;
            }
            if (graph.target(edge) == graph.exit()) {
                finished++;
                present = ENTRY;
            } else {
                present = graph.target(edge);
            }
        }
    }

    /** What stood before each of the newest changes, in a ring whose oldest place is used again. */
    private static final class History {
        private final Placement[] placements = new Placement[MOST_CHANGES];
        private final Simulation[] simulations = new Simulation[MOST_CHANGES];
        private int newest;
        private int size;

        History() {
            for (int i = 0; i < MOST_CHANGES; i++) {
                placements[i] = new Placement();
                simulations[i] = new Simulation();
            }
        }

        int size() {
            return size;
        }

        boolean isEmpty() {
            return size == 0;
        }

        void forget() {
            size = 0;
        }

        void remember(Placement placement, Simulation simulation) {
            newest = newest >= MOST_CHANGES - 1 ? 0 : newest + 1;
            placements[newest].copyFrom(placement);
            simulations[newest].copyFrom(simulation);
            size = Math.min(size + 1, MOST_CHANGES);
        }

        void takeBack(Placement placement, Simulation simulation) {
            if (isEmpty()) {
                return;
            }
            placement.copyFrom(placements[newest]);
            simulation.copyFrom(simulations[newest]);
            newest = newest <= 0 ? MOST_CHANGES - 1 : newest - 1;
            size--;
        }
    }
}

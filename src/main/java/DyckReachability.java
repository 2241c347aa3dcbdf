/**
 * A solver for Dyck reachability on a small directed graph: which vertices are connected by paths
 * whose labels form a balanced bracket word. README.md says how it is used.
 *
 * <p>Every row that a call works on is made by the constructor and used again, so that no call
 * makes an object.
 */
public final class DyckReachability {
    public static final int NO_SUCH_INDEX = -1;
    public static final int BAD_VALUE = -2;
    public static final int NOT_POSSIBLE = -3;
    public static final int FULL = -4;
    public static final int NONE = -9;

    private static final int MOST_VERTICES = 8;
    private static final int MOST_EDGES = 16;
    private static final int LABELS = 7;
    private static final int BRACKET_KINDS = 3;
    private static final int PAIRS = MOST_VERTICES * MOST_VERTICES;
    private static final int SLOTS = 2;
    private static final int MOST_COMMANDS = 4;
    private static final int MOST_STEPS = 40;
    private static final int TENTHS = 10;

    private int vertices;
    private long seed;
    private final Edges edges;
    private final Edges copy;
    private final Edges bothWays;
    private final Distances distances;
    private final History history;
    private final Edges[] slots;
    private final boolean[] slotFilled;
    private final GraphText text;
    private final Observations observations;

    public DyckReachability() {
        vertices = 1;
        seed = 0L;
        edges = new Edges(MOST_EDGES);
        copy = new Edges(MOST_EDGES);
        bothWays = new Edges(2 * MOST_EDGES);
        distances = new Distances();
        history = new History();
        slots = new Edges[SLOTS];
        for (int slot = 0; slot < SLOTS; slot++) {
            slots[slot] = new Edges(MOST_EDGES);
        }
        slotFilled = new boolean[SLOTS];
        text = new GraphText();
        observations = new Observations();
    }

    // ---- graph text

    public int append(int c) {
        if (c < 0 || c > 255) {
            return BAD_VALUE;
        }
        if (text.isFull()) {
            return FULL;
        }
        text.put(c);
        return text.length;
    }

    public int clearText() {
        int previous = text.length;
        text.length = 0;
        return previous;
    }

    public int errorPosition() {
        return text.firstFault();
    }

    public int load() {
        if (text.firstFault() != NONE) {
            return NOT_POSSIBLE;
        }
        vertices = text.writtenVertices();
        text.writeEdgesTo(edges);
        history.forgetAll();
        for (int slot = 0; slot < SLOTS; slot++) {
            slotFilled[slot] = false;
        }
        return edges.size;
    }

    // ---- graph

    public int vertexCount() {
        return vertices;
    }

    public int edgeCount() {
        return edges.size;
    }

    public int source(int edge) {
        return edges.holds(edge) ? edges.sources[edge] : NO_SUCH_INDEX;
    }

    public int target(int edge) {
        return edges.holds(edge) ? edges.targets[edge] : NO_SUCH_INDEX;
    }

    public int label(int edge) {
        return edges.holds(edge) ? edges.labels[edge] : NO_SUCH_INDEX;
    }

    // ---- actions

    public int addEdge(int source, int target, int label) {
        if (!isVertex(source) || !isVertex(target)) {
            return NO_SUCH_INDEX;
        }
        if (!isLabel(label)) {
            return BAD_VALUE;
        }
        if (edges.isFull()) {
            return FULL;
        }
        history.remember(edges);
        edges.put(source, target, label);
        return edges.size - 1;
    }

    public int removeEdge(int edge) {
        if (!edges.holds(edge)) {
            return NO_SUCH_INDEX;
        }
        history.remember(edges);
        edges.drop(edge);
        return edges.size;
    }

    public int setLabel(int edge, int label) {
        if (!edges.holds(edge)) {
            return NO_SUCH_INDEX;
        }
        if (!isLabel(label)) {
            return BAD_VALUE;
        }
        history.remember(edges);
        int previous = edges.labels[edge];
        edges.labels[edge] = label;
        return previous;
    }

    public int undo() {
        if (history.size == 0) {
            return NOT_POSSIBLE;
        }
        history.giveBack(edges);
        return history.size;
    }

    // ---- reachability

    public int reachableFrom(int from) {
        if (!isVertex(from)) {
            return NO_SUCH_INDEX;
        }
        return Relation.row(Relation.ofBalancedPaths(edges, vertices), from);
    }

    public int pairCount() {
        return countPairs(edges);
    }

    public int distance(int from, int to) {
        if (!isVertex(from) || !isVertex(to)) {
            return NO_SUCH_INDEX;
        }
        distances.measure(edges, vertices);
        return distances.reaches(from, to) ? distances.between(from, to) : NONE;
    }

    public int witnessEdge(int from, int to, int i) {
        if (!isVertex(from) || !isVertex(to)) {
            return NO_SUCH_INDEX;
        }
        distances.measure(edges, vertices);
        return distances.edgeOnWitness(edges, from, to, i);
    }

    public int depth(int from, int to) {
        if (!isVertex(from) || !isVertex(to)) {
            return NO_SUCH_INDEX;
        }
        long shallower = 0L;
        // Each level but the last has a pair more than the one before it.
        for (int level = 0; level <= PAIRS; level++) {
            long relation = Relation.nestedAround(shallower, edges, vertices);
            if (Relation.has(relation, from, to)) {
                return level;
            }
            if (relation == shallower) {
                return NONE;
            }
            shallower = relation;
        }
        return NONE;
    }

    public int loss(int edge) {
        if (!edges.holds(edge)) {
            return NO_SUCH_INDEX;
        }
        return countPairs(edges) - countPairsWithout(edge);
    }

    public int criticalEdge() {
        int critical = NONE;
        int fewest = PAIRS + 1;
        for (int edge = 0; edge < edges.size; edge++) {
            int left = countPairsWithout(edge);
            if (left < fewest) {
                fewest = left;
                critical = edge;
            }
        }
        return critical;
    }

    public int representative(int vertex) {
        if (!isVertex(vertex)) {
            return NO_SUCH_INDEX;
        }
        bothWays.takeBothWays(edges);
        long relation = Relation.ofBalancedPaths(bothWays, vertices);
        return Integer.numberOfTrailingZeros(Relation.row(relation, vertex));
    }

    // ---- scripts

    public int runScript(int n, long script) {
        if (n < 1 || n > MOST_COMMANDS || script < 0L) {
            return BAD_VALUE;
        }
        if (Script.withoutLowest(n, script) != 0L) {
            return BAD_VALUE;
        }
        copy.take(edges);
        for (int command = 0; command < n; command++) {
            int group = Script.lowestGroup(Script.withoutLowest(n - 1 - command, script));
            if (!Script.succeeds(group, copy, vertices, distances)) {
                return command;
            }
        }
        return NONE;
    }

    // ---- observations

    public int observe(int from, int to, int b) {
        if (!isVertexNumber(from) || !isVertexNumber(to) || b < 0 || b > 1) {
            return BAD_VALUE;
        }
        if (observations.isFull()) {
            return FULL;
        }
        observations.put(from, to, b);
        return observations.size;
    }

    public int clearObservations() {
        int previous = observations.size;
        observations.size = 0;
        return previous;
    }

    public int possibleLabels(int edge) {
        if (!edges.holds(edge)) {
            return NO_SUCH_INDEX;
        }
        copy.take(edges);
        int possible = 0;
        for (int label = 0; label < LABELS; label++) {
            copy.labels[edge] = label;
            if (observations.allHold(Relation.ofBalancedPaths(copy, vertices), vertices)) {
                possible |= 1 << label;
            }
        }
        return possible;
    }

    // ---- shares and reliability

    public int share(int edge) {
        if (!edges.holds(edge)) {
            return NO_SUCH_INDEX;
        }
        if (edges.size > Chance.MOST_EDGES_ASKED) {
            return NOT_POSSIBLE;
        }
        int own = 1 << edge;
        int subsets = 1 << edges.size;
        int total = 0;
        for (int before = 0; before < subsets; before++) {
            if ((before & own) == 0) {
                int gain = worth(before | own) - worth(before);
                total += gain * Chance.ordersOf(Integer.bitCount(before), edges.size);
            }
        }
        return total;
    }

    public int reliability(int from, int to, int x) {
        if (!isVertex(from) || !isVertex(to)) {
            return NO_SUCH_INDEX;
        }
        if (x < 0 || x > TENTHS) {
            return BAD_VALUE;
        }
        if (edges.size > Chance.MOST_EDGES_ASKED) {
            return NOT_POSSIBLE;
        }
        int subsets = 1 << edges.size;
        int total = 0;
        for (int present = 0; present < subsets; present++) {
            copy.takeSome(edges, present);
            if (Relation.has(Relation.ofBalancedPaths(copy, vertices), from, to)) {
                int missing = edges.size - copy.size;
                total += Chance.power(TENTHS - x, copy.size) * Chance.power(x, missing);
            }
        }
        return total;
    }

    // ---- random simulation

    public long setSeed(long seed) {
        long previous = this.seed;
        this.seed = seed;
        return previous;
    }

    public int simulate(int m) {
        if (m < 1 || m > MOST_STEPS) {
            return BAD_VALUE;
        }
        copy.take(edges);
        int sum = 0;
        for (int step = 0; step < m; step++) {
            seed = Chance.nextSeed(seed);
            Chance.change(copy, vertices, (int) (seed >>> 33));
            sum += countPairs(copy);
        }
        return sum;
    }

    // ---- save slots

    public int save(int slot) {
        if (!isSlot(slot)) {
            return NO_SUCH_INDEX;
        }
        slots[slot].take(edges);
        slotFilled[slot] = true;
        return edges.size;
    }

    public int restore(int slot) {
        if (!isSlot(slot)) {
            return NO_SUCH_INDEX;
        }
        if (!slotFilled[slot]) {
            return NOT_POSSIBLE;
        }
        edges.take(slots[slot]);
        history.forgetAll();
        return edges.size;
    }

    // ---- what several questions need

    private boolean isVertex(int vertex) {
        return vertex >= 0 && vertex < vertices;
    }

    private static boolean isVertexNumber(int number) {
        return number >= 0 && number < MOST_VERTICES;
    }

    private static boolean isLabel(int label) {
        return label >= 0 && label < LABELS;
    }

    private static boolean isSlot(int slot) {
        return slot >= 0 && slot < SLOTS;
    }

    private int countPairs(Edges graph) {
        return Long.bitCount(Relation.ofBalancedPaths(graph, vertices));
    }

    private int countPairsWithout(int edge) {
        copy.take(edges);
        copy.drop(edge);
        return countPairs(copy);
    }

    private int worth(int subset) {
        copy.takeSome(edges, subset);
        return countPairs(copy);
    }

    /** The edges of a graph, in the order of their numbers. */
    static final class Edges {
        final int[] sources;
        final int[] targets;
        final int[] labels;
        int size;

        Edges(int room) {
            sources = new int[room];
            targets = new int[room];
            labels = new int[room];
            size = 0;
        }

        boolean holds(int edge) {
            return edge >= 0 && edge < size;
        }

        boolean isFull() {
            return size >= sources.length;
        }

        void put(int from, int to, int sign) {
            if (isFull()) {
                return;
            }
            sources[size] = from;
            targets[size] = to;
            labels[size] = sign;
            size++;
        }

        void drop(int edge) {
            if (!holds(edge)) {
                return;
            }
            for (int later = edge + 1; later < size; later++) {
                sources[later - 1] = sources[later];
                targets[later - 1] = targets[later];
                labels[later - 1] = labels[later];
            }
            size--;
        }

        void take(Edges other) {
            size = 0;
            for (int edge = 0; edge < other.size; edge++) {
                put(other.sources[edge], other.targets[edge], other.labels[edge]);
            }
        }

        void takeSome(Edges other, int subset) {
            size = 0;
            for (int edge = 0; edge < other.size; edge++) {
                if ((subset >> edge & 1) != 0) {
                    put(other.sources[edge], other.targets[edge], other.labels[edge]);
                }
            }
        }

        void takeBothWays(Edges other) {
            take(other);
            for (int edge = 0; edge < other.size; edge++) {
                put(other.targets[edge], other.sources[edge], otherBracket(other.labels[edge]));
            }
        }

        int find(int from, int to, int sign) {
            for (int edge = 0; edge < size; edge++) {
                if (sources[edge] == from && targets[edge] == to && labels[edge] == sign) {
                    return edge;
                }
            }
            return NONE;
        }

        boolean isEmptyLabelled(int edge) {
            return labels[edge] == 0;
        }

        boolean opens(int edge) {
            return labels[edge] >= 1 && labels[edge] <= BRACKET_KINDS;
        }

        /** Asks that the second edge is an opening bracket. */
        boolean closes(int closing, int opening) {
            return labels[closing] == labels[opening] + BRACKET_KINDS;
        }

        private static int otherBracket(int sign) {
            if (sign == 0) {
                return 0;
            }
            return sign <= BRACKET_KINDS ? sign + BRACKET_KINDS : sign - BRACKET_KINDS;
        }
    }

    /** Relations between vertices as bits: bit 8 * u + v is set if u is related to v. */
    static final class Relation {
        private static final int ROW_MASK = 255;

        private Relation() {
        }

        static int row(long relation, int u) {
            return (int) (relation >>> MOST_VERTICES * u) & ROW_MASK;
        }

        static boolean has(long relation, int u, int v) {
            return (row(relation, u) >> v & 1) != 0;
        }

        private static long withRow(long relation, int u, int row) {
            return relation | (long) row << MOST_VERTICES * u;
        }

        private static long identity(int vertices) {
            long relation = 0L;
            for (int u = 0; u < vertices; u++) {
                relation = withRow(relation, u, 1 << u);
            }
            return relation;
        }

        static long ofBalancedPaths(Edges edges, int vertices) {
            long relation = identity(vertices);
            // Each round but the last adds a pair, so the bound is never the reason to stop.
            for (int round = 0; round <= PAIRS; round++) {
                long before = relation;
                for (int first = 0; first < edges.size; first++) {
                    relation = withPathsBehind(first, relation, edges);
                }
                if (relation == before) {
                    break;
                }
            }
            return relation;
        }

        private static long withPathsBehind(int first, long known, Edges edges) {
            int from = edges.sources[first];
            int inside = edges.targets[first];
            if (edges.isEmptyLabelled(first)) {
                return withRow(known, from, row(known, inside));
            }
            if (!edges.opens(first)) {
                return known;
            }
            long relation = known;
            for (int closing = 0; closing < edges.size; closing++) {
                if (edges.closes(closing, first) && has(relation, inside, edges.sources[closing])) {
                    relation = withRow(relation, from, row(relation, edges.targets[closing]));
                }
            }
            return relation;
        }

        /** The pairs of paths whose brackets, if any, hold paths of the given relation. */
        static long nestedAround(long inner, Edges edges, int vertices) {
            long relation = identity(vertices);
            for (int first = 0; first < edges.size; first++) {
                relation = withRow(relation, edges.sources[first], stepsBy(first, inner, edges));
            }
            return transitive(relation);
        }

        private static int stepsBy(int first, long inner, Edges edges) {
            int inside = edges.targets[first];
            if (edges.isEmptyLabelled(first)) {
                return 1 << inside;
            }
            if (!edges.opens(first)) {
                return 0;
            }
            int ends = 0;
            for (int closing = 0; closing < edges.size; closing++) {
                if (edges.closes(closing, first) && has(inner, inside, edges.sources[closing])) {
                    ends |= 1 << edges.targets[closing];
                }
            }
            return ends;
        }

        private static long transitive(long steps) {
            long relation = steps;
            for (int middle = 0; middle < MOST_VERTICES; middle++) {
                for (int u = 0; u < MOST_VERTICES; u++) {
                    if (has(relation, u, middle)) {
                        relation = withRow(relation, u, row(relation, middle));
                    }
                }
            }
            return relation;
        }
    }

    /** The lengths of the shortest balanced paths between all vertices, and the witnesses. */
    static final class Distances {
        private static final int FARTHEST = 1000000;
        private static final int UNREACHED = FARTHEST + 1;

        private final int[] table;
        private int vertices;

        Distances() {
            table = new int[PAIRS];
            vertices = 0;
        }

        int between(int u, int v) {
            int pair = MOST_VERTICES * u + v;
            return pair >= 0 && pair < PAIRS ? table[pair] : UNREACHED;
        }

        boolean reaches(int u, int v) {
            return between(u, v) != UNREACHED;
        }

        void measure(Edges edges, int vertexTotal) {
            vertices = Math.min(vertexTotal, MOST_VERTICES);
            for (int pair = 0; pair < PAIRS; pair++) {
                table[pair] = UNREACHED;
            }
            for (int u = 0; u < vertices; u++) {
                table[MOST_VERTICES * u + u] = 0;
            }
            // A shortest path is never part of itself, so its parts nest at most PAIRS deep and as
            // many rounds find it.
            boolean shorter = true;
            for (int round = 0; round <= PAIRS && shorter; round++) {
                shorter = false;
                for (int first = 0; first < edges.size; first++) {
                    if (shortenBehind(first, edges)) {
                        shorter = true;
                    }
                }
            }
        }

        private boolean shortenBehind(int first, Edges edges) {
            int from = edges.sources[first];
            int inside = edges.targets[first];
            if (edges.isEmptyLabelled(first)) {
                return shorten(from, 1, inside);
            }
            if (!edges.opens(first)) {
                return false;
            }
            boolean shorter = false;
            for (int closing = 0; closing < edges.size; closing++) {
                if (edges.closes(closing, first) && reaches(inside, edges.sources[closing])) {
                    int lead = between(inside, edges.sources[closing]) + 2;
                    if (shorten(from, lead, edges.targets[closing])) {
                        shorter = true;
                    }
                }
            }
            return shorter;
        }

        /** Uses that a balanced path of the length lead leads from one vertex to another. */
        boolean shorten(int from, int lead, int next) {
            if (!isVertexNumber(from)) {
                return false;
            }
            boolean shorter = false;
            for (int to = 0; to < vertices; to++) {
                if (reaches(next, to)) {
                    int length = Math.min(lead + between(next, to), FARTHEST);
                    if (length < between(from, to)) {
                        table[MOST_VERTICES * from + to] = length;
                        shorter = true;
                    }
                }
            }
            return shorter;
        }

        int edgeOnWitness(Edges edges, int from, int to, int position) {
            if (between(from, to) >= FARTHEST || position < 0 || position >= between(from, to)) {
                return NONE;
            }
            int u = from;
            int v = to;
            int i = position;
            // Each turn goes on in a part of the witness that is shorter, hence of another pair.
            for (int turn = 0; turn <= PAIRS; turn++) {
                int first = firstOnWitness(edges, u, v);
                if (first == NONE || i == 0) {
                    return first;
                }
                i--;
                if (edges.isEmptyLabelled(first)) {
                    u = edges.targets[first];
                    continue;
                }
                int closing = closingOnWitness(edges, first, v);
                if (closing == NONE) {
                    return NONE;
                }
                int inner = between(edges.targets[first], edges.sources[closing]);
                if (i == inner) {
                    return closing;
                }
                if (i < inner) {
                    u = edges.targets[first];
                    v = edges.sources[closing];
                } else {
                    u = edges.targets[closing];
                    i -= inner + 1;
                }
            }
            return NONE;
        }

        private int firstOnWitness(Edges edges, int u, int v) {
            for (int first = 0; first < edges.size; first++) {
                if (edges.sources[first] == u && beginsShortest(edges, first, v)) {
                    return first;
                }
            }
            return NONE;
        }

        private boolean beginsShortest(Edges edges, int first, int v) {
            if (edges.isEmptyLabelled(first)) {
                return between(edges.sources[first], v) == between(edges.targets[first], v) + 1;
            }
            return edges.opens(first) && closingOnWitness(edges, first, v) != NONE;
        }

        private int closingOnWitness(Edges edges, int first, int v) {
            int whole = between(edges.sources[first], v);
            for (int closing = 0; closing < edges.size; closing++) {
                if (edges.closes(closing, first)) {
                    int inner = between(edges.targets[first], edges.sources[closing]);
                    int rest = between(edges.targets[closing], v);
                    if (inner + rest + 2 == whole) {
                        return closing;
                    }
                }
            }
            return NONE;
        }
    }

    /** The edges before each of the last actions, in a ring. */
    static final class History {
        private static final int MOST_STATES = 14;

        private final Edges[] states;
        private int next;
        int size;

        History() {
            states = new Edges[MOST_STATES];
            for (int i = 0; i < MOST_STATES; i++) {
                states[i] = new Edges(MOST_EDGES);
            }
            next = 0;
            size = 0;
        }

        void remember(Edges edges) {
            states[next].take(edges);
            next = next + 1 < MOST_STATES ? next + 1 : 0;
            size = Math.min(size + 1, MOST_STATES);
        }

        void giveBack(Edges edges) {
            if (size == 0) {
                return;
            }
            next = next > 0 ? next - 1 : MOST_STATES - 1;
            size--;
            edges.take(states[next]);
        }

        void forgetAll() {
            size = 0;
        }
    }

    /** The text buffer and the graph that is written in it. */
    static final class GraphText {
        private static final int ROOM = 60;
        private static final int HEAD = 2;
        private static final int EDGE_SIGNS = 3;
        private static final char[] LABEL_SIGNS = {'.', 'a', 'b', 'c', 'A', 'B', 'C'};

        private final int[] signs;
        int length;

        GraphText() {
            signs = new int[ROOM];
            length = 0;
        }

        boolean isFull() {
            return length >= ROOM;
        }

        void put(int sign) {
            if (isFull()) {
                return;
            }
            signs[length] = sign;
            length++;
        }

        int firstFault() {
            for (int i = 0; i < length; i++) {
                if (!fits(i)) {
                    return i;
                }
            }
            boolean complete = length >= HEAD && (length - HEAD) % EDGE_SIGNS == 0;
            return complete ? NONE : length;
        }

        private boolean fits(int i) {
            int sign = signs[i];
            if (i == 0) {
                return sign == 'D';
            }
            if (i == 1) {
                return sign >= '1' && sign <= '0' + MOST_VERTICES;
            }
            if (i >= HEAD + EDGE_SIGNS * MOST_EDGES) {
                return false;
            }
            if ((i - HEAD) % EDGE_SIGNS == 2) {
                return labelOf(sign) != NONE;
            }
            return sign >= '0' && sign - '0' < writtenVertices();
        }

        private static int labelOf(int sign) {
            for (int i = 0; i < LABELS; i++) {
                if (LABEL_SIGNS[i] == sign) {
                    return i;
                }
            }
            return NONE;
        }

        int writtenVertices() {
            return signs[1] - '0';
        }

        /** Asks that the text has no fault. */
        void writeEdgesTo(Edges edges) {
            edges.size = 0;
            for (int i = HEAD; i + 2 < length; i += EDGE_SIGNS) {
                edges.put(signs[i] - '0', signs[i + 1] - '0', labelOf(signs[i + 2]));
            }
        }
    }

    /** The commands of scripts. */
    static final class Script {
        private static final long GROUP = 10000L;

        private Script() {
        }

        static long withoutLowest(int groups, long script) {
            long rest = script;
            for (int i = 0; i < groups; i++) {
                rest /= GROUP;
            }
            return rest;
        }

        static int lowestGroup(long script) {
            return (int) (script % GROUP);
        }

        static boolean succeeds(int group, Edges edges, int vertices, Distances distances) {
            int a = group / 100 % 10;
            int b = group / 10 % 10;
            int c = group % 10;
            switch (group / 1000) {
                case 1:
                    return adds(edges, vertices, a, b, c);
                case 2:
                    return a == 0 && removes(edges, 10 * b + c);
                case 3:
                    return a < vertices && b < vertices && c <= 1
                            && Relation.has(Relation.ofBalancedPaths(edges, vertices), a, b)
                                    == (c == 1);
                case 4:
                    return a == 0
                            && Long.bitCount(Relation.ofBalancedPaths(edges, vertices))
                                    == 10 * b + c;
                case 5:
                    if (a >= vertices || b >= vertices) {
                        return false;
                    }
                    distances.measure(edges, vertices);
                    return distances.between(a, b) == c;
                default:
                    return false;
            }
        }

        private static boolean adds(Edges edges, int vertices, int from, int to, int sign) {
            if (from >= vertices || to >= vertices || !isLabel(sign) || edges.isFull()) {
                return false;
            }
            edges.put(from, to, sign);
            return true;
        }

        private static boolean removes(Edges edges, int edge) {
            if (!edges.holds(edge)) {
                return false;
            }
            edges.drop(edge);
            return true;
        }
    }

    /** What is said about pairs of vertices when the label of one edge is unknown. */
    static final class Observations {
        private static final int ROOM = 6;

        private final int[] starts;
        private final int[] ends;
        private final int[] answers;
        int size;

        Observations() {
            starts = new int[ROOM];
            ends = new int[ROOM];
            answers = new int[ROOM];
            size = 0;
        }

        boolean isFull() {
            return size >= ROOM;
        }

        void put(int from, int to, int answer) {
            if (isFull()) {
                return;
            }
            starts[size] = from;
            ends[size] = to;
            answers[size] = answer;
            size++;
        }

        boolean allHold(long relation, int vertices) {
            for (int i = 0; i < size; i++) {
                boolean asked = starts[i] < vertices && ends[i] < vertices;
                boolean reached = Relation.has(relation, starts[i], ends[i]);
                if (asked && reached != (answers[i] == 1)) {
                    return false;
                }
            }
            return true;
        }
    }

    /** The numbers behind shares, reliability and random steps. */
    static final class Chance {
        static final int MOST_EDGES_ASKED = 8;

        private static final int[] FACTORIALS = {1, 1, 2, 6, 24, 120, 720, 5040};
        /** 40320 divided by the factorial of the index. */
        private static final int[] SCALES = {40320, 40320, 20160, 6720, 1680, 336, 56, 8, 1};

        private Chance() {
        }

        /** How many of 40320 orders of all edges have just the given edges before an edge. */
        static int ordersOf(int before, int all) {
            int behind = all - 1 - before;
            if (before < 0 || behind < 0 || all > MOST_EDGES_ASKED) {
                return 0;
            }
            return FACTORIALS[before] * FACTORIALS[behind] * SCALES[all];
        }

        static int power(int base, int exponent) {
            int product = 1;
            for (int i = 0; i < exponent; i++) {
                product *= base;
            }
            return product;
        }

        static long nextSeed(long seed) {
            return seed * 6364136223846793005L + 1442695040888963407L;
        }

        static void change(Edges edges, int vertices, int drawn) {
            if (vertices < 1) {
                return;
            }
            int from = drawn % vertices;
            int to = drawn / 8 % vertices;
            int sign = drawn / 64 % LABELS;
            int found = edges.find(from, to, sign);
            if (found == NONE) {
                edges.put(from, to, sign);
            } else {
                edges.drop(found);
            }
        }
    }
}

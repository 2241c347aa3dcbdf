import java.math.BigInteger;
import java.util.ArrayDeque;
import java.util.ArrayList;
import java.util.Deque;
import java.util.HashMap;
import java.util.List;
import java.util.Map;
import java.util.regex.Matcher;
import java.util.regex.Pattern;

/**
 * The document once more, written as plainly as can be and by other means than the class: balanced
 * paths as empty, an edge, a bracketed path or two paths in a row; shares over all orders.
 */
final class Model {
    static final int NO_SUCH_INDEX = -1;
    static final int BAD_VALUE = -2;
    static final int NOT_POSSIBLE = -3;
    static final int FULL = -4;
    static final int NONE = -9;

    private static final long FAR = Long.MAX_VALUE / 8;
    private static final long HUGE = FAR / 8;

    record Edge(int source, int target, int label) {
    }

    record Observation(int from, int to, int b) {
    }

    private int n = 1;
    private List<Edge> edges = new ArrayList<>();
    private final Deque<List<Edge>> past = new ArrayDeque<>();
    private final Map<Integer, List<Edge>> slots = new HashMap<>();
    private final List<Observation> observations = new ArrayList<>();
    private String text = "";
    private long seed = 0;

    // ---- graph text

    int append(int c) {
        if (c < 0 || c > 255) {
            return BAD_VALUE;
        }
        if (text.length() == 60) {
            return FULL;
        }
        text += (char) c;
        return text.length();
    }

    int clearText() {
        int length = text.length();
        text = "";
        return length;
    }

    private static boolean isGraphText(String s, boolean orStartOfOne) {
        for (int size = 1; size <= 8; size++) {
            String digit = "[0-" + (size - 1) + "]";
            String edge = "(" + digit + digit + "[.abcABC])";
            Matcher m = Pattern.compile("D" + size + edge + "{0,16}").matcher(s);
            if (m.matches() || orStartOfOne && m.hitEnd()) {
                return true;
            }
        }
        return false;
    }

    int errorPosition() {
        if (isGraphText(text, false)) {
            return NONE;
        }
        for (int i = 0; i < text.length(); i++) {
            if (!isGraphText(text.substring(0, i + 1), true)) {
                return i;
            }
        }
        return text.length();
    }

    int load() {
        if (!isGraphText(text, false)) {
            return NOT_POSSIBLE;
        }
        n = Integer.parseInt(text.substring(1, 2));
        edges = new ArrayList<>();
        for (int i = 2; i < text.length(); i += 3) {
            edges.add(new Edge(text.charAt(i) - '0', text.charAt(i + 1) - '0',
                    ".abcABC".indexOf(text.charAt(i + 2))));
        }
        past.clear();
        slots.clear();
        return edges.size();
    }

    // ---- graph and actions

    int vertexCount() {
        return n;
    }

    int edgeCount() {
        return edges.size();
    }

    boolean isEdge(int e) {
        return e >= 0 && e < edges.size();
    }

    boolean isVertex(int v) {
        return v >= 0 && v < n;
    }

    int source(int e) {
        return isEdge(e) ? edges.get(e).source : NO_SUCH_INDEX;
    }

    int target(int e) {
        return isEdge(e) ? edges.get(e).target : NO_SUCH_INDEX;
    }

    int label(int e) {
        return isEdge(e) ? edges.get(e).label : NO_SUCH_INDEX;
    }

    private void remember() {
        past.addLast(new ArrayList<>(edges));
        if (past.size() > 14) {
            past.removeFirst();
        }
    }

    int addEdge(int source, int target, int label) {
        if (!isVertex(source) || !isVertex(target)) {
            return NO_SUCH_INDEX;
        }
        if (label < 0 || label > 6) {
            return BAD_VALUE;
        }
        if (edges.size() == 16) {
            return FULL;
        }
        remember();
        edges.add(new Edge(source, target, label));
        return edges.size() - 1;
    }

    int removeEdge(int e) {
        if (!isEdge(e)) {
            return NO_SUCH_INDEX;
        }
        remember();
        edges.remove(e);
        return edges.size();
    }

    int setLabel(int e, int label) {
        if (!isEdge(e)) {
            return NO_SUCH_INDEX;
        }
        if (label < 0 || label > 6) {
            return BAD_VALUE;
        }
        remember();
        Edge old = edges.get(e);
        edges.set(e, new Edge(old.source, old.target, label));
        return old.label;
    }

    int undo() {
        if (past.isEmpty()) {
            return NOT_POSSIBLE;
        }
        edges = past.removeLast();
        return past.size();
    }

    // ---- reachability

    /** The costs of the cheapest balanced paths: their edges, or else their nesting depths. */
    private long[][] costs(List<Edge> graph, boolean ofDepth) {
        long[][] cost = new long[n][n];
        for (int u = 0; u < n; u++) {
            for (int v = 0; v < n; v++) {
                cost[u][v] = u == v ? 0 : FAR;
            }
        }
        boolean changed = true;
        while (changed) {
            changed = false;
            for (Edge e : graph) {
                if (e.label == 0) {
                    changed |= lower(cost, e.source, e.target, ofDepth ? 0 : 1);
                }
                for (Edge f : graph) {
                    if (e.label >= 1 && e.label <= 3 && f.label == e.label + 3) {
                        long inner = cost[e.target][f.source];
                        if (inner < FAR) {
                            changed |= lower(cost, e.source, f.target, inner + (ofDepth ? 1 : 2));
                        }
                    }
                }
            }
            for (int u = 0; u < n; u++) {
                for (int w = 0; w < n; w++) {
                    for (int v = 0; v < n; v++) {
                        if (cost[u][w] < FAR && cost[w][v] < FAR) {
                            changed |= lower(cost, u, v, ofDepth
                                    ? Math.max(cost[u][w], cost[w][v])
                                    : cost[u][w] + cost[w][v]);
                        }
                    }
                }
            }
        }
        return cost;
    }

    private static boolean lower(long[][] cost, int u, int v, long to) {
        long bounded = Math.min(to, HUGE);
        if (bounded >= cost[u][v]) {
            return false;
        }
        cost[u][v] = bounded;
        return true;
    }

    private boolean reaches(List<Edge> graph, int u, int v) {
        return costs(graph, true)[u][v] < FAR;
    }

    private int pairs(List<Edge> graph) {
        int count = 0;
        for (long[] row : costs(graph, true)) {
            for (long cost : row) {
                count += cost < FAR ? 1 : 0;
            }
        }
        return count;
    }

    int reachableFrom(int from) {
        if (!isVertex(from)) {
            return NO_SUCH_INDEX;
        }
        long[] row = costs(edges, true)[from];
        int bits = 0;
        for (int v = 0; v < n; v++) {
            bits += row[v] < FAR ? 1 << v : 0;
        }
        return bits;
    }

    int pairCount() {
        return pairs(edges);
    }

    int distance(int from, int to) {
        if (!isVertex(from) || !isVertex(to)) {
            return NO_SUCH_INDEX;
        }
        long d = costs(edges, false)[from][to];
        return d == FAR ? NONE : (int) Math.min(d, 1000000);
    }

    private List<Integer> witness(long[][] d, int u, int v) {
        List<Integer> path = new ArrayList<>();
        if (u == v) {
            return path;
        }
        for (int e = 0; e < edges.size(); e++) {
            Edge first = edges.get(e);
            if (first.source != u) {
                continue;
            }
            if (first.label == 0 && d[first.target][v] + 1 == d[u][v]) {
                path.add(e);
                path.addAll(witness(d, first.target, v));
                return path;
            }
            for (int f = 0; f < edges.size(); f++) {
                Edge last = edges.get(f);
                if (first.label >= 1 && first.label <= 3 && last.label == first.label + 3
                        && d[first.target][last.source] + d[last.target][v] + 2 == d[u][v]) {
                    path.add(e);
                    path.addAll(witness(d, first.target, last.source));
                    path.add(f);
                    path.addAll(witness(d, last.target, v));
                    return path;
                }
            }
        }
        throw new IllegalStateException("no witness");
    }

    int witnessEdge(int from, int to, int i) {
        if (!isVertex(from) || !isVertex(to)) {
            return NO_SUCH_INDEX;
        }
        long[][] d = costs(edges, false);
        if (d[from][to] >= 1000000 || i < 0 || i >= d[from][to]) {
            return NONE;
        }
        return witness(d, from, to).get(i);
    }

    int depth(int from, int to) {
        if (!isVertex(from) || !isVertex(to)) {
            return NO_SUCH_INDEX;
        }
        long d = costs(edges, true)[from][to];
        return d == FAR ? NONE : (int) d;
    }

    int loss(int e) {
        if (!isEdge(e)) {
            return NO_SUCH_INDEX;
        }
        List<Edge> without = new ArrayList<>(edges);
        without.remove(e);
        return pairs(edges) - pairs(without);
    }

    int criticalEdge() {
        int best = NONE;
        for (int e = edges.size() - 1; e >= 0; e--) {
            if (best == NONE || loss(e) >= loss(best)) {
                best = e;
            }
        }
        return best;
    }

    int representative(int v) {
        if (!isVertex(v)) {
            return NO_SUCH_INDEX;
        }
        List<Edge> both = new ArrayList<>(edges);
        int[] twin = {0, 4, 5, 6, 1, 2, 3};
        for (Edge e : edges) {
            both.add(new Edge(e.target, e.source, twin[e.label]));
        }
        int u = 0;
        while (!reaches(both, u, v)) {
            u++;
        }
        return u;
    }

    // ---- scripts

    int runScript(int count, long script) {
        if (count < 1 || count > 4 || script < 0 || Long.toString(script).length() > 4 * count) {
            return BAD_VALUE;
        }
        String digits = String.format("%0" + 4 * count + "d", script);
        List<Edge> kept = edges;
        edges = new ArrayList<>(edges);
        int result = NONE;
        for (int i = 0; i < count && result == NONE; i++) {
            if (!command(digits.substring(4 * i, 4 * i + 4))) {
                result = i;
            }
        }
        edges = kept;
        return result;
    }

    private boolean command(String group) {
        int a = group.charAt(1) - '0';
        int b = group.charAt(2) - '0';
        int c = group.charAt(3) - '0';
        int number = Integer.parseInt(group.substring(2));
        switch (group.charAt(0)) {
            case '1':
                if (a >= n || b >= n || c > 6 || edges.size() == 16) {
                    return false;
                }
                edges.add(new Edge(a, b, c));
                return true;
            case '2':
                if (a != 0 || number >= edges.size()) {
                    return false;
                }
                edges.remove(number);
                return true;
            case '3':
                return a < n && b < n && c < 2 && reaches(edges, a, b) == (c == 1);
            case '4':
                return a == 0 && pairs(edges) == number;
            case '5':
                return a < n && b < n && distance(a, b) == c;
            default:
                return false;
        }
    }

    // ---- observations

    int observe(int from, int to, int b) {
        if (from < 0 || from > 7 || to < 0 || to > 7 || b < 0 || b > 1) {
            return BAD_VALUE;
        }
        if (observations.size() == 6) {
            return FULL;
        }
        observations.add(new Observation(from, to, b));
        return observations.size();
    }

    int clearObservations() {
        int size = observations.size();
        observations.clear();
        return size;
    }

    int possibleLabels(int e) {
        if (!isEdge(e)) {
            return NO_SUCH_INDEX;
        }
        int bits = 0;
        for (int label = 0; label <= 6; label++) {
            List<Edge> graph = new ArrayList<>(edges);
            graph.set(e, new Edge(edges.get(e).source, edges.get(e).target, label));
            boolean possible = true;
            for (Observation o : observations) {
                if (isVertex(o.from) && isVertex(o.to)) {
                    possible &= reaches(graph, o.from, o.to) == (o.b == 1);
                }
            }
            bits += possible ? 1 << label : 0;
        }
        return bits;
    }

    // ---- shares and reliability

    int share(int e) {
        if (!isEdge(e)) {
            return NO_SUCH_INDEX;
        }
        if (edges.size() > 8) {
            return NOT_POSSIBLE;
        }
        int m = edges.size();
        int[] worth = new int[1 << m];
        for (int set = 0; set < 1 << m; set++) {
            List<Edge> some = new ArrayList<>();
            for (int i = 0; i < m; i++) {
                if ((set >> i & 1) == 1) {
                    some.add(edges.get(i));
                }
            }
            worth[set] = pairs(some);
        }
        long[] sumAndOrders = new long[2];
        overAllOrders(worth, m, 0, e, 0, sumAndOrders);
        BigInteger scaled = BigInteger.valueOf(sumAndOrders[0]).multiply(BigInteger.valueOf(40320));
        BigInteger[] parts = scaled.divideAndRemainder(BigInteger.valueOf(sumAndOrders[1]));
        if (parts[1].signum() != 0) {
            throw new IllegalStateException("not whole");
        }
        return parts[0].intValueExact();
    }

    private static void overAllOrders(
            int[] worth, int m, int before, int e, int gain, long[] sumAndOrders) {
        if (before == (1 << m) - 1) {
            sumAndOrders[0] += gain;
            sumAndOrders[1]++;
            return;
        }
        for (int next = 0; next < m; next++) {
            int set = before | 1 << next;
            if (set != before) {
                int more = next == e ? worth[set] - worth[before] : gain;
                overAllOrders(worth, m, set, e, more, sumAndOrders);
            }
        }
    }

    int reliability(int from, int to, int x) {
        if (!isVertex(from) || !isVertex(to)) {
            return NO_SUCH_INDEX;
        }
        if (x < 0 || x > 10) {
            return BAD_VALUE;
        }
        if (edges.size() > 8) {
            return NOT_POSSIBLE;
        }
        return (int) weight(new ArrayList<>(), 0, from, to, x);
    }

    private long weight(List<Edge> present, int decided, int from, int to, int x) {
        if (decided == edges.size()) {
            return reaches(present, from, to) ? 1 : 0;
        }
        long missing = weight(present, decided + 1, from, to, x);
        List<Edge> more = new ArrayList<>(present);
        more.add(edges.get(decided));
        return x * missing + (10 - x) * weight(more, decided + 1, from, to, x);
    }

    // ---- random simulation

    long setSeed(long next) {
        long previous = seed;
        seed = next;
        return previous;
    }

    int simulate(int m) {
        if (m < 1 || m > 40) {
            return BAD_VALUE;
        }
        List<Edge> graph = new ArrayList<>(edges);
        int sum = 0;
        for (int step = 0; step < m; step++) {
            seed = BigInteger.valueOf(seed)
                    .multiply(new BigInteger("6364136223846793005"))
                    .add(new BigInteger("1442695040888963407"))
                    .longValue();
            int v = (int) (seed >>> 33);
            Edge drawn = new Edge(v % n, v / 8 % n, v / 64 % 7);
            if (!graph.remove(drawn) && graph.size() < 16) {
                graph.add(drawn);
            }
            sum += pairs(graph);
        }
        return sum;
    }

    // ---- save slots

    int save(int slot) {
        if (slot != 0 && slot != 1) {
            return NO_SUCH_INDEX;
        }
        slots.put(slot, new ArrayList<>(edges));
        return edges.size();
    }

    int restore(int slot) {
        if (slot != 0 && slot != 1) {
            return NO_SUCH_INDEX;
        }
        if (!slots.containsKey(slot)) {
            return NOT_POSSIBLE;
        }
        edges = new ArrayList<>(slots.get(slot));
        past.clear();
        return edges.size();
    }
}

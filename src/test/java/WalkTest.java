import java.util.ArrayList;
import java.util.HashMap;
import java.util.List;
import java.util.Map;
import java.util.Random;

/**
 * Promises 15 to 19 straight from the definition of a path: all walks of up to LONGEST edges over
 * vertices and stacks of open brackets, on small drawn graphs.
 */
public final class WalkTest {
    private static final Check check = new Check();
    private static final int LONGEST = 8;

    private final String text;
    private final int n;
    private final List<int[]> edges = new ArrayList<>();
    private final Map<String, List<int[]>> shortest = new HashMap<>();
    private final Map<String, Integer> shallowest = new HashMap<>();
    private final int[] path = new int[LONGEST];

    private WalkTest(String text) {
        this.text = text;
        n = text.charAt(1) - '0';
        for (int i = 2; i < text.length(); i += 3) {
            edges.add(new int[] {text.charAt(i) - '0', text.charAt(i + 1) - '0',
                ".abcABC".indexOf(text.charAt(i + 2))});
        }
    }

    public static void main(String[] args) {
        Random random = new Random(20261118L);
        for (int graph = 0; graph < 1500; graph++) {
            int n = 2 + random.nextInt(3);
            int m = 2 + random.nextInt(5);
            String labels = random.nextBoolean() ? "aA." : ".aabbAABB";
            StringBuilder text = new StringBuilder("D").append(n);
            for (int e = 0; e < m; e++) {
                text.append(random.nextInt(n)).append(random.nextInt(n));
                text.append(labels.charAt(random.nextInt(labels.length())));
            }
            new WalkTest(text.toString()).compare();
        }
        check.end();
    }

    private void compare() {
        for (int u = 0; u < n; u++) {
            walk(u, u, 0, "", 0);
        }
        DyckReachability x = Check.graph(text);
        for (int u = 0; u < n; u++) {
            for (int v = 0; v < n; v++) {
                compare(x, u, v);
            }
        }
    }

    private void compare(DyckReachability x, int u, int v) {
        String pair = "(" + u + ", " + v + ")";
        int distance = x.distance(u, v);
        List<int[]> paths = shortest.get(pair);
        if (paths == null) {
            check.holds(text + " distance" + pair + " is NONE or long: " + distance,
                    distance == DyckReachability.NONE || distance > LONGEST);
            return;
        }
        check.due(text + " distance" + pair, distance, paths.get(0).length);
        check.due(text + " reachableFrom(" + u + ")", x.reachableFrom(u) >> v & 1, 1);
        check.holds(text + " depth" + pair, x.depth(u, v) <= shallowest.get(pair));
        int[] witness = witnessOf(u, v);
        for (int i = 0; i < witness.length; i++) {
            check.due(text + " witnessEdge" + pair + " at " + i, x.witnessEdge(u, v, i), witness[i]);
        }
    }

    private void walk(int start, int at, int length, String open, int deepest) {
        if (open.isEmpty()) {
            keep("(" + start + ", " + at + ")", java.util.Arrays.copyOf(path, length), deepest);
        }
        if (open.length() > LONGEST - length || length == LONGEST) {
            return;
        }
        for (int e = 0; e < edges.size(); e++) {
            int[] edge = edges.get(e);
            if (edge[0] != at) {
                continue;
            }
            path[length] = e;
            if (edge[2] == 0) {
                walk(start, edge[1], length + 1, open, deepest);
            } else if (edge[2] <= 3) {
                String more = open + edge[2];
                walk(start, edge[1], length + 1, more, Math.max(deepest, more.length()));
            } else if (open.endsWith(String.valueOf(edge[2] - 3))) {
                walk(start, edge[1], length + 1, open.substring(0, open.length() - 1), deepest);
            }
        }
    }

    private void keep(String pair, int[] found, int deepest) {
        shallowest.merge(pair, deepest, Math::min);
        List<int[]> known = shortest.get(pair);
        if (known == null || known.get(0).length > found.length) {
            known = new ArrayList<>();
            shortest.put(pair, known);
        }
        if (known.isEmpty() || known.get(0).length == found.length) {
            known.add(found);
        }
    }

    /** The rule of the document, as a choice among all shortest paths. */
    private int[] witnessOf(int u, int v) {
        List<int[]> paths = shortest.get("(" + u + ", " + v + ")");
        if (u == v) {
            return new int[0];
        }
        int first = Integer.MAX_VALUE;
        for (int[] p : paths) {
            first = Math.min(first, p[0]);
        }
        int[] edge = edges.get(first);
        if (edge[2] == 0) {
            return joined(new int[] {first}, witnessOf(edge[1], v));
        }
        int closing = Integer.MAX_VALUE;
        for (int[] p : paths) {
            if (p[0] == first) {
                closing = Math.min(closing, p[closedAt(p)]);
            }
        }
        int[] last = edges.get(closing);
        int[] bracket = joined(new int[] {first}, witnessOf(edge[1], last[0]));
        return joined(joined(bracket, new int[] {closing}), witnessOf(last[1], v));
    }

    private int closedAt(int[] p) {
        int height = 0;
        for (int i = 0; i < p.length; i++) {
            int label = edges.get(p[i])[2];
            height += label == 0 ? 0 : label <= 3 ? 1 : -1;
            if (height == 0) {
                return i;
            }
        }
        return p.length - 1;
    }

    private static int[] joined(int[] a, int[] b) {
        int[] c = java.util.Arrays.copyOf(a, a.length + b.length);
        System.arraycopy(b, 0, c, a.length, b.length);
        return c;
    }
}

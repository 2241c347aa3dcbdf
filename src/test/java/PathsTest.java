/** Promises 15 to 22: reachability, distances, witnesses, depth, losses, representatives. */
public final class PathsTest {
    private static final Check check = new Check();
    private static final int NONE = DyckReachability.NONE;
    private static final int NO_SUCH_INDEX = DyckReachability.NO_SUCH_INDEX;

    public static void main(String[] args) {
        bracketsMustMatch();
        emptyLabelsAndLoops();
        wrongVertices();
        witnessOnTies();
        witnessOutsideItsEnds();
        aLongWitness();
        depthIsNotThatOfTheShortestPath();
        losses();
        representatives();
        check.end();
    }

    private static void bracketsMustMatch() {
        DyckReachability x = Check.graph("D401a12A13B30A");
        check.due("reachableFrom(0)", x.reachableFrom(0), 0b101);
        check.due("reachableFrom(1)", x.reachableFrom(1), 0b10);
        check.due("reachableFrom(3)", x.reachableFrom(3), 0b1000);
        check.due("pairCount", x.pairCount(), 5);
        check.due("distance(0, 2)", x.distance(0, 2), 2);
        check.due("distance(0, 1)", x.distance(0, 1), NONE);
        check.due("distance(0, 3)", x.distance(0, 3), NONE);
        check.due("distance(3, 0)", x.distance(3, 0), NONE);
        check.due("depth(0, 2)", x.depth(0, 2), 1);
        check.due("depth(0, 3)", x.depth(0, 3), NONE);
        check.due("crossed brackets", Check.graph("D501a12b23A34B").distance(0, 4), NONE);
        check.due("nested brackets", Check.graph("D501a12b23B34A").distance(0, 4), 4);
        check.due("closing first", Check.graph("D301A12a").distance(0, 2), NONE);
        check.due("two in a row", Check.graph("D501c12C23b34B").depth(0, 4), 1);
    }

    private static void emptyLabelsAndLoops() {
        DyckReachability x = Check.graph("D300a01.12A");
        check.due("distance(0, 2)", x.distance(0, 2), 3);
        check.due("distance(0, 1)", x.distance(0, 1), 1);
        check.due("distance(0, 0)", x.distance(0, 0), 0);
        check.due("depth(0, 1)", x.depth(0, 1), 0);
        check.due("depth(0, 2)", x.depth(0, 2), 1);
        check.due("reachableFrom(0)", x.reachableFrom(0), 7);
        check.due("eight in a ring", Check.graph("D801.12.23.34.45.56.67.70.").pairCount(), 64);
        check.due("all from 7", Check.graph("D801.12.23.34.45.56.67.70.").reachableFrom(7), 255);
        check.due("eight alone", Check.graph("D8").pairCount(), 8);
        // Two opening brackets lead home, but it takes three closing ones.
        DyckReachability z = Check.graph("D401a10a02A23A30A");
        check.due("distance(1, 0)", z.distance(1, 0), 6);
        check.due("distance(1, 3)", z.distance(1, 3), 10);
        check.due("depth(0, 2)", z.depth(0, 2), 4);
    }

    private static void wrongVertices() {
        DyckReachability x = Check.graph("D201.");
        int[] wrong = {-1, 2, 8, Integer.MIN_VALUE, Integer.MAX_VALUE};
        for (int v : wrong) {
            check.due("reachableFrom(" + v + ")", x.reachableFrom(v), NO_SUCH_INDEX);
            check.due("representative(" + v + ")", x.representative(v), NO_SUCH_INDEX);
            check.due("distance(" + v + ", 0)", x.distance(v, 0), NO_SUCH_INDEX);
            check.due("distance(0, " + v + ")", x.distance(0, v), NO_SUCH_INDEX);
            check.due("depth(" + v + ", 0)", x.depth(v, 0), NO_SUCH_INDEX);
            check.due("depth(0, " + v + ")", x.depth(0, v), NO_SUCH_INDEX);
            check.due("witnessEdge(" + v + ", 0, -1)", x.witnessEdge(v, 0, -1), NO_SUCH_INDEX);
            check.due("witnessEdge(0, " + v + ", 0)", x.witnessEdge(0, v, 0), NO_SUCH_INDEX);
            check.due("loss(" + v + ")", x.loss(v == 0 ? 1 : v), NO_SUCH_INDEX);
        }
    }

    private static void witness(String text, int from, int to, int... want) {
        DyckReachability x = Check.graph(text);
        check.due(text + " distance", x.distance(from, to), want.length);
        for (int i = 0; i < want.length; i++) {
            check.due(text + " witness at " + i, x.witnessEdge(from, to, i), want[i]);
        }
        check.due(text + " witness at its end", x.witnessEdge(from, to, want.length), NONE);
    }

    private static void witnessOnTies() {
        witness("D401.13.02a23A", 0, 3, 0, 1);
        witness("D402a23A01.13.", 0, 3, 0, 1);
        witness("D423A13.01.02a", 0, 3, 2, 1);
        witness("D312A12A01a01a", 0, 2, 2, 0);
        witness("D301.01.", 0, 1, 0);
        // The smaller closing edge lies on a longer path, the greater one on the shortest.
        witness("D401a12A13A23.", 0, 3, 0, 2);
        witness("D613A14A43.01a35.", 0, 5, 3, 0, 4);
        // Two paths of three edges each: the smaller closing edge decides, wherever it stands.
        witness("D614A23A01a12.43.", 0, 3, 2, 0, 4);
        witness("D623A14A01a12.43.", 0, 3, 2, 3, 0);
        // A bracket inside a bracket, and a bracket behind it.
        witness("D756B65.45b34C23A12a01c", 0, 4, 6, 5, 4, 3);
        witness("D756B45b34C23A12a01c", 0, 6, 5, 4, 3, 2, 1, 0);
    }

    private static void witnessOutsideItsEnds() {
        DyckReachability x = Check.graph("D301a12A00.");
        check.due("witnessEdge(0, 2, -1)", x.witnessEdge(0, 2, -1), NONE);
        check.due("witnessEdge(0, 2, MIN)", x.witnessEdge(0, 2, Integer.MIN_VALUE), NONE);
        check.due("witnessEdge(0, 2, MAX)", x.witnessEdge(0, 2, Integer.MAX_VALUE), NONE);
        check.due("witnessEdge(0, 0, 0)", x.witnessEdge(0, 0, 0), NONE);
        check.due("witnessEdge(2, 0, 0)", x.witnessEdge(2, 0, 0), NONE);
    }

    /** The longest of the shortest paths that a search over graphs has found. */
    private static void aLongWitness() {
        String text = "D845A07c71c76B67b46a42B27B50c13b53A15a31a34C26c21C";
        DyckReachability x = Check.graph(text);
        int length = 4126;
        check.due("distance(3, 6)", x.distance(3, 6), length);
        check.due("witnessEdge(3, 6, 4126)", x.witnessEdge(3, 6, length), NONE);
        int[] open = new int[length];
        int height = 0;
        int at = 3;
        for (int i = 0; i < length; i++) {
            if (i % 400 == 0) {
                x = Check.graph(text);
            }
            int edge = x.witnessEdge(3, 6, i);
            if (edge < 0 || edge > 15) {
                check.due("witnessEdge(3, 6, " + i + ") is an edge", 0, 1);
                return;
            }
            check.due("source at " + i, text.charAt(2 + 3 * edge) - '0', at);
            at = text.charAt(3 + 3 * edge) - '0';
            int label = ".abcABC".indexOf(text.charAt(4 + 3 * edge));
            if (label >= 1 && label <= 3) {
                open[height++] = label;
            } else if (label > 3) {
                height--;
                check.due("bracket closed at " + i, height < 0 ? 0 : open[height], label - 3);
                height = Math.max(height, 0);
            }
        }
        check.due("end of the witness", at, 6);
        check.due("brackets open at its end", height, 0);
    }

    private static void depthIsNotThatOfTheShortestPath() {
        DyckReachability x = Check.graph("D801a12b23B34A05.56.67.");
        check.due("depth(0, 4)", x.depth(0, 4), 2);
        x.addEdge(7, 3, 0);
        x.addEdge(3, 4, 0);
        check.due("distance(0, 4)", x.distance(0, 4), 4);
        x.addEdge(4, 4, 0);
        check.due("depth(0, 4) by five empty labels", x.depth(0, 4), 0);
        check.due("depth(0, 0)", x.depth(0, 0), 0);
    }

    private static void losses() {
        DyckReachability x = Check.graph("D301.12.01.");
        check.due("loss(0)", x.loss(0), 0);
        check.due("loss(1)", x.loss(1), 2);
        check.due("loss(2)", x.loss(2), 0);
        check.due("criticalEdge", x.criticalEdge(), 1);
        check.due("loss(3)", x.loss(3), NO_SUCH_INDEX);
        check.due("loss(-1)", x.loss(-1), NO_SUCH_INDEX);
        check.due("edgeCount afterwards", x.edgeCount(), 3);
        check.due("undo afterwards", x.undo(), DyckReachability.NOT_POSSIBLE);
        check.due("no edges", Check.graph("D3").criticalEdge(), NONE);
        check.due("no loss at all", Check.graph("D300.11.").criticalEdge(), 0);
        check.due("all pairs stay without any edge",
                Check.graph("D8" + "01.12.23.34.45.56.67.70.".repeat(2)).criticalEdge(), 0);
        check.due("the first of equals", Check.graph("D400.01a12A").criticalEdge(), 1);
    }

    private static void representatives() {
        DyckReachability x = Check.graph("D601a21a34.53b");
        int[] want = {0, 1, 0, 3, 3, 5};
        for (int v = 0; v < 6; v++) {
            check.due("representative(" + v + ")", x.representative(v), want[v]);
        }
        x.addEdge(5, 4, 2);
        check.due("representative(5)", x.representative(5), 5);
        x.addEdge(2, 4, 2);
        check.due("representative(5) with 2", x.representative(5), 0);
        check.due("representative(4)", x.representative(4), 3);
        check.due("pairCount is that of the graph itself", x.pairCount(), 7);
        for (char kind = 'a'; kind <= 'c'; kind++) {
            String opening = String.valueOf(kind);
            String closing = opening.toUpperCase();
            String[] joined = {"D301" + opening + "21" + opening, "D310" + closing + "12" + closing};
            String[] apart = {"D310" + opening + "12" + opening, "D301" + closing + "21" + closing};
            for (int i = 0; i < 2; i++) {
                check.due(joined[i], Check.graph(joined[i]).representative(2), 0);
                check.due(apart[i], Check.graph(apart[i]).representative(2), 2);
            }
        }
        check.due("full graph", Check.graph("D8" + "70c06C".repeat(8)).representative(7), 6);
    }
}

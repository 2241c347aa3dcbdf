/**
 * The sentences under BALANCED PATHS, CRITICAL EDGES and BIDIRECTED CLOSURE that name a boundary,
 * one by one (promises 15 to 22).
 */
public final class LimitsOfPathsTest {
    private static final Check check = new Check();
    private static final int NONE = DyckReachability.NONE;
    private static final String RING = "D801.12.23.34.45.56.67.70.";
    /** From 0 to k leads the loop k times and then k closing brackets. */
    private static final String STAIRS = "D800a01A12A23A34A45A56A67A";

    public static void main(String[] args) {
        theEmptyPath();
        pairsWithThemselves();
        anEdgeAnyNumberOfTimes();
        distancesOfAMillion();
        distancesOfNoVertices();
        depthOfTheEmptyWord();
        depthIsTheGreatestNumberOpen();
        depthIsTheSmallestOfAllPaths();
        positionsInTheWitness();
        theFirstAndTheLastEdge();
        noPathAtAll();
        losses();
        noEdgesOrNoLoss();
        severalEdgesWithTheGreatestLoss();
        bothWays();
        theSmallestOfTheClass();
        check.end();
    }

    /** "The empty path leads from each vertex to itself"; "If u = v, the witness is the empty path." */
    private static void theEmptyPath() {
        String[] texts = {
            "D1", "D8", "D100.", "D100a00A", RING, STAIRS, "D201a10A", "D8" + "00.77.".repeat(8)
        };
        for (String text : texts) {
            DyckReachability x = Check.graph(text);
            for (int u = 0; u < x.vertexCount(); u++) {
                String at = text + " at " + u + ": ";
                check.due(at + "reachableFrom", x.reachableFrom(u) >> u & 1, 1);
                check.due(at + "distance", x.distance(u, u), 0);
                check.due(at + "depth", x.depth(u, u), 0);
                check.due(at + "witnessEdge at 0", x.witnessEdge(u, u, 0), NONE);
                check.due(at + "witnessEdge at -1", x.witnessEdge(u, u, -1), NONE);
                check.due(at + "witnessEdge at 1", x.witnessEdge(u, u, 1), NONE);
            }
        }
    }

    /** "the number of ordered pairs (u, v), including u = v" */
    private static void pairsWithThemselves() {
        for (int n = 1; n <= 8; n++) {
            check.due("pairCount of D" + n, Check.graph("D" + n).pairCount(), n);
        }
        check.due("one pair more", Check.graph("D201.").pairCount(), 3);
        check.due("the other order too", Check.graph("D201.10.").pairCount(), 4);
        check.due("a loop adds none", Check.graph("D200.11.").pairCount(), 2);
        check.due("all pairs", Check.graph(RING).pairCount(), 64);
        check.due("all pairs by 16 edges", Check.graph(RING + RING.substring(2)).pairCount(), 64);
        check.due("all from the last", Check.graph(RING).reachableFrom(7), 255);
        check.due("all but the last", Check.graph(RING.substring(0, 20)).reachableFrom(0), 127);
    }

    /** "An edge may occur in a path any number of times." */
    private static void anEdgeAnyNumberOfTimes() {
        DyckReachability x = Check.graph(STAIRS);
        for (int k = 1; k <= 7; k++) {
            check.due("distance(0, " + k + ")", x.distance(0, k), 2 * k);
            for (int i = 0; i < 2 * k; i++) {
                int want = i < k ? 0 : i - k + 1;
                check.due("witnessEdge(0, " + k + ", " + i + ")", x.witnessEdge(0, k, i), want);
            }
        }
        check.due("reachableFrom(0)", x.reachableFrom(0), 255);
        check.due("pairCount", x.pairCount(), 15);
    }

    /**
     * "A distance of more than 1000000 counts as 1000000"; "If the distance from u to v is
     * 1000000, there is no witness." The search behind NOTES.md found no graph of 16 edges with a
     * distance above 4126, so the table itself is told that a path of some length leads from 1 to 2.
     */
    private static void distancesOfAMillion() {
        int[] lengths = {999997, 999998, 999999, 1000000, 1000001, 1000002, 1999999};
        for (int length : lengths) {
            DyckReachability.Edges edges = new DyckReachability.Edges(16);
            edges.put(0, 1, 0);
            DyckReachability.Distances distances = new DyckReachability.Distances();
            distances.measure(edges, 3);
            check.holds("no path at first", !distances.reaches(0, 2));
            distances.shorten(1, length, 2);
            distances.shorten(0, 1, 1);
            String told = "with a path of " + length + ": ";
            check.holds(told + "1 reaches 2", distances.reaches(1, 2));
            check.due(told + "from 1 to 2", distances.between(1, 2), Math.min(length, 1000000));
            check.holds(told + "0 reaches 2", distances.reaches(0, 2));
            check.due(told + "from 0 to 2", distances.between(0, 2), Math.min(length + 1, 1000000));
            check.due(told + "the witness", distances.edgeOnWitness(edges, 0, 2, 0),
                    length + 1 < 1000000 ? 0 : NONE);
            check.holds(told + "2 does not reach 0", !distances.reaches(2, 0));
        }
    }

    /** LANGUAGE.md, rule 7: "an index is looked at before it is used", by the table itself too. */
    private static void distancesOfNoVertices() {
        DyckReachability.Edges edges = new DyckReachability.Edges(16);
        edges.put(0, 7, 0);
        DyckReachability.Distances distances = new DyckReachability.Distances();
        distances.measure(edges, 9);
        check.due("from 7 to 7", distances.between(7, 7), 0);
        check.due("from 0 to 7", distances.between(0, 7), 1);
        for (int v : new int[] {-9, -8, 8, 9, 1000, -1000}) {
            check.holds(v + " does not reach 7", !distances.reaches(v, 7));
            check.holds("no path is told from " + v, !distances.shorten(v, 1, 7));
            check.holds("no path is told to " + v, !distances.shorten(7, 1, v));
        }
    }

    /** "it is 0 if the word is empty" */
    private static void depthOfTheEmptyWord() {
        DyckReachability x = Check.graph(RING);
        for (int v = 0; v < 8; v++) {
            check.due("depth(0, " + v + ")", x.depth(0, v), 0);
        }
        DyckReachability y = Check.graph("D301a12A");
        check.due("depth of one bracket", y.depth(0, 2), 1);
    }

    /** "the greatest number of opening brackets that are open at the same time" */
    private static void depthIsTheGreatestNumberOpen() {
        DyckReachability x = Check.graph(STAIRS);
        for (int k = 0; k <= 7; k++) {
            check.due("depth(0, " + k + ")", x.depth(0, k), k);
        }
        check.due("one after another", Check.graph("D801a12A23b34B45c56C").depth(0, 6), 1);
        check.due("two and then one", Check.graph("D801a12b23B34A45c56C").depth(0, 6), 2);
        check.due("one and then two", Check.graph("D801a12A23b34c45C56B").depth(0, 6), 2);
        check.due("two inside three", Check.graph("D801a12b23B34c45C56A").depth(0, 6), 2);
        check.due("three", Check.graph("D801a12b23c34C45B56A").depth(0, 6), 3);
        check.due("the closing edge is number 0", Check.graph("D312A01a").depth(0, 2), 1);
        String last = "D2" + "11b".repeat(14) + "00c01C";
        check.due("the closing edge is number 15", Check.graph(last).depth(0, 1), 1);
    }

    /** "The depth from u to v is the smallest nesting depth of a balanced path from u to v." */
    private static void depthIsTheSmallestOfAllPaths() {
        DyckReachability x = Check.graph("D801a12A03.34.42.");
        check.due("distance by the bracket", x.distance(0, 2), 2);
        check.due("depth by the longer path", x.depth(0, 2), 0);
        DyckReachability y = Check.graph("D801a12b23B34A05c56C67c74C");
        check.due("distance of both", y.distance(0, 4), 4);
        check.due("witness of both", y.witnessEdge(0, 4, 0), 0);
        check.due("depth of the other one", y.depth(0, 4), 1);
        // Four brackets are opened at a time, five closed: 16 each, the most open are 8.
        DyckReachability z = Check.graph("D801a12a23a30a04A45A56A67A70A");
        check.due("distance(0, 4)", z.distance(0, 4), 32);
        check.due("depth(0, 4)", z.depth(0, 4), 8);
    }

    /** "NONE ... if i is negative or not less than the distance" */
    private static void positionsInTheWitness() {
        DyckReachability x = Check.graph(STAIRS);
        for (int k = 0; k <= 7; k++) {
            String to = " of the witness to " + k;
            check.due("-1" + to, x.witnessEdge(0, k, -1), NONE);
            check.due("the least" + to, x.witnessEdge(0, k, Integer.MIN_VALUE), NONE);
            check.due("the last" + to, x.witnessEdge(0, k, 2 * k - 1), k == 0 ? NONE : k);
            check.due("behind the last" + to, x.witnessEdge(0, k, 2 * k), NONE);
            check.due("two behind the last" + to, x.witnessEdge(0, k, 2 * k + 1), NONE);
            check.due("the greatest" + to, x.witnessEdge(0, k, Integer.MAX_VALUE), NONE);
        }
    }

    /** Every edge number from 0 to 15 may be the opening and the closing one of a witness. */
    private static void theFirstAndTheLastEdge() {
        for (int at = 0; at <= 14; at++) {
            String before = "22c".repeat(at);
            String behind = "33b".repeat(14 - at);
            DyckReachability x = Check.graph("D4" + before + "01a12A" + behind);
            check.due("opening at " + at, x.witnessEdge(0, 2, 0), at);
            check.due("closing behind it", x.witnessEdge(0, 2, 1), at + 1);
            DyckReachability y = Check.graph("D4" + before + "12A01a" + behind);
            check.due("opening behind it", y.witnessEdge(0, 2, 0), at + 1);
            check.due("closing at " + at, y.witnessEdge(0, 2, 1), at);
            check.due("depth with " + at, y.depth(0, 2), 1);
            DyckReachability z = Check.graph("D4" + before + "01.12." + behind);
            check.due("empty at " + at, z.witnessEdge(0, 2, 0), at);
            check.due("empty behind it", z.witnessEdge(0, 2, 1), at + 1);
        }
    }

    /** "NONE if to is not reachable from from" */
    private static void noPathAtAll() {
        for (String text : new String[] {"D2", "D210.", "D201a", "D201A", "D201a11B", "D200A01a"}) {
            DyckReachability x = Check.graph(text);
            check.due(text + " distance(0, 1)", x.distance(0, 1), NONE);
            check.due(text + " depth(0, 1)", x.depth(0, 1), NONE);
            check.due(text + " witnessEdge(0, 1, 0)", x.witnessEdge(0, 1, 0), NONE);
            check.due(text + " witnessEdge(0, 1, -1)", x.witnessEdge(0, 1, -1), NONE);
            check.due(text + " witnessEdge(0, 1, MAX)", x.witnessEdge(0, 1, Integer.MAX_VALUE), NONE);
            check.due(text + " reachableFrom(0)", x.reachableFrom(0), 1);
        }
    }

    /** "The loss of an edge is the pair count minus the pair count of the graph without that edge." */
    private static void losses() {
        DyckReachability line = Check.graph("D401.12.23.");
        check.due("the first of a line", line.loss(0), 3);
        check.due("the middle of a line", line.loss(1), 4);
        check.due("the last of a line", line.loss(2), 3);
        check.due("the middle is critical", line.criticalEdge(), 1);
        DyckReachability ring = Check.graph(RING);
        for (int e = 0; e < 8; e++) {
            check.due("loss(" + e + ") of the ring", ring.loss(e), 28);
        }
        check.due("the first of the ring is critical", ring.criticalEdge(), 0);
        DyckReachability brackets = Check.graph("D301a12A");
        check.due("an opening bracket", brackets.loss(0), 1);
        check.due("a closing bracket", brackets.loss(1), 1);
    }

    /** "Returns the number of the critical edge; NONE if there are no edges." */
    private static void noEdgesOrNoLoss() {
        for (int n = 1; n <= 8; n++) {
            check.due("criticalEdge of D" + n, Check.graph("D" + n).criticalEdge(), NONE);
            check.due("one loop", Check.graph("D" + n + "00.").criticalEdge(), 0);
            check.due("loss of one loop", Check.graph("D" + n + "00.").loss(0), 0);
        }
        DyckReachability twice = Check.graph(RING + RING.substring(2));
        for (int e = 0; e < 16; e++) {
            check.due("loss(" + e + ") of the ring twice", twice.loss(e), 0);
        }
        check.due("criticalEdge of the ring twice", twice.criticalEdge(), 0);
        DyckReachability emptied = Check.graph("D201.");
        emptied.removeEdge(0);
        check.due("criticalEdge once it is removed", emptied.criticalEdge(), NONE);
    }

    /** "among several such edges, it is the one with the smallest number" */
    private static void severalEdgesWithTheGreatestLoss() {
        check.due("both", Check.graph("D401.23.").criticalEdge(), 0);
        check.due("the second and the third", Check.graph("D500.01.23.").criticalEdge(), 1);
        check.due("the first and the third", Check.graph("D501.44.23.").criticalEdge(), 0);
        check.due("a greater one, twice", Check.graph("D701.23.45a56A44.42.").criticalEdge(), 1);
        for (int e = 0; e < 16; e++) {
            String text = "D2" + "00.".repeat(e) + "01." + "11.".repeat(15 - e);
            check.due(text + " criticalEdge", Check.graph(text).criticalEdge(), e);
            check.due(text + " loss", Check.graph(text).loss(e), 1);
        }
    }

    /** "For each edge from u to v it also contains an edge from v to u": up to 32 edges in all. */
    private static void bothWays() {
        check.due("an empty label", Check.graph("D201.").representative(1), 0);
        check.due("a bracket alone", Check.graph("D201a").representative(1), 1);
        check.due("one kind", Check.graph("D301a21a").representative(2), 0);
        check.due("two kinds", Check.graph("D301a21b").representative(2), 2);
        check.due("closed and opened", Check.graph("D301A21A").representative(2), 2);
        check.due("opened and closed", Check.graph("D310A12A").representative(2), 0);
        for (char kind = 'a'; kind <= 'c'; kind++) {
            char closing = Character.toUpperCase(kind);
            String[] joined = {"D301" + kind + "21" + kind, "D310" + closing + "12" + closing,
                "D301" + kind + "12" + closing};
            for (String text : joined) {
                check.due(text + " representative(2)", Check.graph(text).representative(2), 0);
            }
        }
        for (int e = 0; e < 16; e++) {
            String text = "D2" + "00a".repeat(e) + "01." + "11b".repeat(15 - e);
            check.due(text + " representative(1)", Check.graph(text).representative(1), 0);
            check.due(text + " representative(0)", Check.graph(text).representative(0), 0);
            check.due(text + " reachableFrom(1)", Check.graph(text).reachableFrom(1), 2);
        }
    }

    /** "The representative of a vertex is the smallest vertex of its equivalence class." */
    private static void theSmallestOfTheClass() {
        for (int n = 1; n <= 8; n++) {
            DyckReachability x = Check.graph("D" + n);
            for (int v = 0; v < n; v++) {
                check.due("representative(" + v + ") of D" + n, x.representative(v), v);
            }
        }
        DyckReachability y = Check.graph("D873.57.26.");
        int[] want = {0, 1, 2, 3, 4, 3, 2, 3};
        for (int v = 0; v < 8; v++) {
            check.due("representative(" + v + ")", y.representative(v), want[v]);
        }
        DyckReachability all = Check.graph("D876.65.54.43.32.21.10.");
        for (int v = 0; v < 8; v++) {
            check.due("representative(" + v + ") of a line", all.representative(v), 0);
        }
    }
}

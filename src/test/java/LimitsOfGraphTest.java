/**
 * The sentences under GRAPH that name a boundary, one by one: vertices, edges, labels and the
 * numbers behind a removed edge (promises 1 and 6 to 13).
 */
public final class LimitsOfGraphTest {
    private static final Check check = new Check();
    private static final int NO_SUCH_INDEX = DyckReachability.NO_SUCH_INDEX;
    private static final int BAD_VALUE = DyckReachability.BAD_VALUE;
    private static final int FULL = DyckReachability.FULL;
    private static final int NONE = DyckReachability.NONE;

    public static void main(String[] args) {
        verticesFromOneToEight();
        everyQuestionKnowsTheVertices();
        everyCallKnowsTheEdges();
        atMostSixteenEdges();
        numbersInTheOrderOfAdding();
        sameEndsAndSameEdges();
        labelsFromZeroToSix();
        bracketsOfEachKind();
        aNewObject();
        numbersBehindARemovedEdge();
        check.end();
    }

    /** "The graph has n vertices, numbered 0 to n - 1, with n from 1 to 8." */
    private static void verticesFromOneToEight() {
        for (int n = 1; n <= 8; n++) {
            DyckReachability x = Check.graph("D" + n);
            check.due("vertexCount of D" + n, x.vertexCount(), n);
            check.due("edgeCount of D" + n, x.edgeCount(), 0);
            check.due("addEdge to n", x.addEdge(0, n, 0), NO_SUCH_INDEX);
            check.due("addEdge from n", x.addEdge(n, 0, 0), NO_SUCH_INDEX);
            check.due("addEdge to -1", x.addEdge(0, -1, 0), NO_SUCH_INDEX);
            check.due("addEdge from -1", x.addEdge(-1, 0, 0), NO_SUCH_INDEX);
            check.due("addEdge from n - 1 to 0", x.addEdge(n - 1, 0, 1), 0);
            check.due("addEdge from 0 to n - 1", x.addEdge(0, n - 1, 2), 1);
            check.same("the edges", State.graphOf(x), "D" + n + (n - 1) + "0a" + "0" + (n - 1) + "b");
        }
        for (String text : new String[] {"D0", "D9"}) {
            DyckReachability x = new DyckReachability();
            Check.write(x, text);
            check.due("load of " + text, x.load(), DyckReachability.NOT_POSSIBLE);
            check.due("vertexCount after it", x.vertexCount(), 1);
        }
    }

    private static void everyQuestionKnowsTheVertices() {
        for (int n = 1; n <= 8; n++) {
            String text = "D" + n;
            int last = n - 1;
            DyckReachability x = Check.graph(text);
            check.due(text + " reachableFrom the last", x.reachableFrom(last), 1 << last);
            check.due(text + " distance of the last", x.distance(last, last), 0);
            check.due(text + " witnessEdge of the last", x.witnessEdge(last, last, 0), NONE);
            check.due(text + " depth of the last", x.depth(last, last), 0);
            check.due(text + " representative of the last", x.representative(last), last);
            check.due(text + " reliability of the last", x.reliability(last, last, 0), 1);
            for (int v : new int[] {-1, n, 8, Integer.MIN_VALUE, Integer.MAX_VALUE}) {
                String and = text + " and " + v + ": ";
                check.due(and + "reachableFrom", x.reachableFrom(v), NO_SUCH_INDEX);
                check.due(and + "distance from", x.distance(v, last), NO_SUCH_INDEX);
                check.due(and + "distance to", x.distance(last, v), NO_SUCH_INDEX);
                check.due(and + "witnessEdge from", x.witnessEdge(v, last, 0), NO_SUCH_INDEX);
                check.due(and + "witnessEdge to", x.witnessEdge(last, v, 0), NO_SUCH_INDEX);
                check.due(and + "depth from", x.depth(v, last), NO_SUCH_INDEX);
                check.due(and + "depth to", x.depth(last, v), NO_SUCH_INDEX);
                check.due(and + "representative", x.representative(v), NO_SUCH_INDEX);
                check.due(and + "reliability from", x.reliability(v, last, 0), NO_SUCH_INDEX);
                check.due(and + "reliability to", x.reliability(last, v, 0), NO_SUCH_INDEX);
                check.due(and + "addEdge from", x.addEdge(v, last, 0), NO_SUCH_INDEX);
                check.due(and + "addEdge to", x.addEdge(last, v, 0), NO_SUCH_INDEX);
            }
        }
    }

    /** "NO_SUCH_INDEX means that a vertex, edge or slot argument of the call does not exist." */
    private static void everyCallKnowsTheEdges() {
        for (int m = 0; m <= 16; m++) {
            String text = "D2" + "10B".repeat(m);
            DyckReachability x = Check.graph(text);
            for (int e : new int[] {-1, m, 16, Integer.MIN_VALUE, Integer.MAX_VALUE}) {
                String and = text + " and " + e + ": ";
                check.due(and + "source", x.source(e), NO_SUCH_INDEX);
                check.due(and + "target", x.target(e), NO_SUCH_INDEX);
                check.due(and + "label", x.label(e), NO_SUCH_INDEX);
                check.due(and + "removeEdge", x.removeEdge(e), NO_SUCH_INDEX);
                check.due(and + "setLabel", x.setLabel(e, 0), NO_SUCH_INDEX);
                check.due(and + "loss", x.loss(e), NO_SUCH_INDEX);
                check.due(and + "possibleLabels", x.possibleLabels(e), NO_SUCH_INDEX);
                check.due(and + "share", x.share(e), NO_SUCH_INDEX);
            }
            if (m == 0) {
                continue;
            }
            check.due(text + " source of the last", x.source(m - 1), 1);
            check.due(text + " target of the last", x.target(m - 1), 0);
            check.due(text + " label of the last", x.label(m - 1), 5);
            check.due(text + " loss of the last", x.loss(m - 1), 0);
            check.due(text + " possibleLabels of the last", x.possibleLabels(m - 1), 127);
            check.due(text + " share of the last", x.share(m - 1),
                    m > 8 ? DyckReachability.NOT_POSSIBLE : 0);
            check.due(text + " setLabel of the last", x.setLabel(m - 1, 6), 5);
            check.due(text + " removeEdge of the last", x.removeEdge(m - 1), m - 1);
        }
    }

    /** "It has at most 16 edges": so by addEdge, by load and after each way to lose one. */
    private static void atMostSixteenEdges() {
        DyckReachability x = Check.graph("D3");
        for (int e = 0; e < 16; e++) {
            check.due("edgeCount before number " + e, x.edgeCount(), e);
            check.due("addEdge number " + e, x.addEdge(2, 1, 3), e);
        }
        check.due("edgeCount", x.edgeCount(), 16);
        check.due("a seventeenth", x.addEdge(2, 1, 3), FULL);
        check.due("edgeCount after FULL", x.edgeCount(), 16);
        check.due("removeEdge(15)", x.removeEdge(15), 15);
        check.due("a sixteenth again", x.addEdge(0, 0, 0), 15);
        check.due("a seventeenth again", x.addEdge(0, 0, 0), FULL);
        check.due("undo", x.undo(), 13);
        check.due("a sixteenth after undo", x.addEdge(0, 1, 0), 15);
        check.due("a seventeenth after undo", x.addEdge(0, 1, 0), FULL);
        DyckReachability y = Check.graph("D3" + "01.".repeat(15));
        check.due("a sixteenth after load", y.addEdge(0, 1, 0), 15);
        check.due("a seventeenth after load", y.addEdge(0, 1, 0), FULL);
        y.save(0);
        y.removeEdge(3);
        y.restore(0);
        check.due("a seventeenth after restore", y.addEdge(0, 1, 0), FULL);
    }

    /** "numbered 0, 1, 2, ... in the order in which they were added" */
    private static void numbersInTheOrderOfAdding() {
        DyckReachability x = Check.graph("D3");
        check.due("the first", x.addEdge(2, 0, 6), 0);
        check.due("the second", x.addEdge(1, 2, 5), 1);
        check.due("the third", x.addEdge(0, 1, 4), 2);
        check.same("three", State.graphOf(x), "D320C12B01A");
        check.due("removeEdge(1)", x.removeEdge(1), 2);
        check.due("one more gets the last number", x.addEdge(1, 1, 1), 2);
        check.same("three again", State.graphOf(x), "D320C01A11a");
    }

    /** "Source and target may be the same vertex, and several edges may have the same ..." */
    private static void sameEndsAndSameEdges() {
        DyckReachability x = Check.graph("D2");
        check.due("a loop", x.addEdge(1, 1, 4), 0);
        check.due("the same loop", x.addEdge(1, 1, 4), 1);
        check.due("the same loop once more", x.addEdge(1, 1, 4), 2);
        check.due("setLabel changes one of them", x.setLabel(1, 0), 4);
        check.same("three loops", State.graphOf(x), "D211A11.11A");
        check.due("removeEdge removes one of them", x.removeEdge(0), 2);
        check.same("two loops", State.graphOf(x), "D211.11A");
    }

    /** "label, 0 to 6": for addEdge, and for setLabel. */
    private static void labelsFromZeroToSix() {
        DyckReachability x = Check.graph("D1");
        for (int label = 0; label <= 6; label++) {
            check.due("addEdge label " + label, x.addEdge(0, 0, label), label);
            check.due("label(" + label + ")", x.label(label), label);
        }
        for (int label = 0; label <= 6; label++) {
            check.due("setLabel to " + label, x.setLabel(3, label), label == 0 ? 3 : label - 1);
            check.due("label(3)", x.label(3), label);
        }
        for (int label : new int[] {-1, 7, Integer.MIN_VALUE, Integer.MAX_VALUE}) {
            check.due("addEdge label " + label, x.addEdge(0, 0, label), BAD_VALUE);
            check.due("setLabel to " + label, x.setLabel(3, label), BAD_VALUE);
        }
        check.same("the edges", State.graphOf(x), "D100.00a00b00C00A00B00C");
    }

    /** "1, 2, 3 for the opening bracket of kind 1, 2, 3; 4, 5, 6 for the closing bracket" */
    private static void bracketsOfEachKind() {
        for (int first = 0; first <= 6; first++) {
            for (int second = 0; second <= 6; second++) {
                DyckReachability x = Check.graph("D301.12.");
                x.setLabel(0, first);
                x.setLabel(1, second);
                boolean empty = first == 0 && second == 0;
                boolean pair = first >= 1 && first <= 3 && second == first + 3;
                String labels = "labels " + first + " and " + second + ": ";
                check.due(labels + "distance(0, 2)", x.distance(0, 2), empty || pair ? 2 : NONE);
                check.due(labels + "depth(0, 2)", x.depth(0, 2), empty ? 0 : pair ? 1 : NONE);
                check.due(labels + "distance(0, 1)", x.distance(0, 1), first == 0 ? 1 : NONE);
                check.due(labels + "reachableFrom(1)", x.reachableFrom(1), second == 0 ? 6 : 2);
            }
        }
    }

    /** "A new object has one vertex and no edges." */
    private static void aNewObject() {
        DyckReachability x = new DyckReachability();
        check.due("source(0)", x.source(0), NO_SUCH_INDEX);
        check.due("vertex 0", x.reachableFrom(0), 1);
        check.due("vertex 1", x.reachableFrom(1), NO_SUCH_INDEX);
        check.same("a new object", State.of(new DyckReachability()),
                "D1, seed 0, labels, observations 0, slot 0 empty, slot 1 empty,"
                        + " text with a fault at 0 and length 0");
    }

    /** "When an edge is removed, each edge with a greater number gets the number smaller by 1." */
    private static void numbersBehindARemovedEdge() {
        StringBuilder all = new StringBuilder();
        for (int e = 0; e < 16; e++) {
            all.append(e % 8).append(3 * e % 8).append(".abcABC".charAt(e % 7));
        }
        for (int e = 0; e < 16; e++) {
            DyckReachability x = Check.graph("D8" + all);
            check.due("removeEdge(" + e + ")", x.removeEdge(e), 15);
            String left = all.substring(0, 3 * e) + all.substring(3 * e + 3);
            check.same("the edges without number " + e, State.graphOf(x), "D8" + left);
            check.due("source(15)", x.source(15), NO_SUCH_INDEX);
        }
        DyckReachability x = Check.graph("D8" + all);
        for (int left = 15; left >= 0; left--) {
            check.due("removeEdge(0)", x.removeEdge(0), left);
        }
        check.due("removeEdge(0) of none", x.removeEdge(0), NO_SUCH_INDEX);
    }
}

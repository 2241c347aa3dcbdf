/** Promises 1 and 6 to 14: a new object, the edges, the actions and undo. */
public final class GraphTest {
    private static final Check check = new Check();
    private static final int[] EXTREMES = {-1, Integer.MIN_VALUE, Integer.MAX_VALUE};

    public static void main(String[] args) {
        aNewObject();
        edgeQuestionsRefuse();
        addEdgeAnswersAndRefuses();
        removeEdgeRenumbers();
        setLabelAnswersAndRefuses();
        undoGoesBack();
        undoRemembersFourteen();
        errorsAreNoActions();
        undoLeavesTheRest();
        check.end();
    }

    private static void aNewObject() {
        DyckReachability x = new DyckReachability();
        check.due("vertexCount", x.vertexCount(), 1);
        check.due("edgeCount", x.edgeCount(), 0);
        check.due("undo", x.undo(), DyckReachability.NOT_POSSIBLE);
        check.due("restore(0)", x.restore(0), DyckReachability.NOT_POSSIBLE);
        check.due("restore(1)", x.restore(1), DyckReachability.NOT_POSSIBLE);
        check.due("clearText", x.clearText(), 0);
        check.due("clearObservations", x.clearObservations(), 0);
        check.due("setSeed", x.setSeed(1L), 0L);
        check.due("pairCount", x.pairCount(), 1);
    }

    private static void edgeQuestionsRefuse() {
        DyckReachability x = Check.graph("D210c");
        check.due("source(0)", x.source(0), 1);
        check.due("target(0)", x.target(0), 0);
        check.due("label(0)", x.label(0), 3);
        int[] wrong = {-1, 1, 16, Integer.MIN_VALUE, Integer.MAX_VALUE};
        for (int e : wrong) {
            check.due("source(" + e + ")", x.source(e), DyckReachability.NO_SUCH_INDEX);
            check.due("target(" + e + ")", x.target(e), DyckReachability.NO_SUCH_INDEX);
            check.due("label(" + e + ")", x.label(e), DyckReachability.NO_SUCH_INDEX);
        }
    }

    private static void addEdgeAnswersAndRefuses() {
        DyckReachability x = Check.graph("D2");
        check.due("addEdge(2, 0, 0)", x.addEdge(2, 0, 0), DyckReachability.NO_SUCH_INDEX);
        check.due("addEdge(0, 2, 9)", x.addEdge(0, 2, 9), DyckReachability.NO_SUCH_INDEX);
        for (int bad : EXTREMES) {
            check.due("addEdge bad source", x.addEdge(bad, 0, 0), DyckReachability.NO_SUCH_INDEX);
            check.due("addEdge bad target", x.addEdge(0, bad, 0), DyckReachability.NO_SUCH_INDEX);
            check.due("addEdge bad label", x.addEdge(0, 1, bad), DyckReachability.BAD_VALUE);
        }
        check.due("addEdge(0, 1, 7)", x.addEdge(0, 1, 7), DyckReachability.BAD_VALUE);
        for (int e = 0; e < 16; e++) {
            check.due("addEdge number " + e, x.addEdge(e % 2, 1 - e % 2, e % 7), e);
        }
        for (int e = 0; e < 16; e++) {
            check.due("source(" + e + ")", x.source(e), e % 2);
            check.due("target(" + e + ")", x.target(e), 1 - e % 2);
            check.due("label(" + e + ")", x.label(e), e % 7);
        }
        check.due("addEdge to 16", x.addEdge(0, 1, 0), DyckReachability.FULL);
        check.due("bad label to 16", x.addEdge(0, 1, 7), DyckReachability.BAD_VALUE);
        check.due("bad vertex to 16", x.addEdge(0, 2, 7), DyckReachability.NO_SUCH_INDEX);
        check.due("edgeCount", x.edgeCount(), 16);
    }

    private static void removeEdgeRenumbers() {
        DyckReachability x = Check.graph("D401a12b23c30C");
        check.due("removeEdge(4)", x.removeEdge(4), DyckReachability.NO_SUCH_INDEX);
        for (int bad : EXTREMES) {
            check.due("removeEdge(" + bad + ")", x.removeEdge(bad), DyckReachability.NO_SUCH_INDEX);
        }
        check.due("removeEdge(1)", x.removeEdge(1), 3);
        int[] sources = {0, 2, 3};
        int[] targets = {1, 3, 0};
        int[] labels = {1, 3, 6};
        for (int e = 0; e < 3; e++) {
            check.due("source(" + e + ")", x.source(e), sources[e]);
            check.due("target(" + e + ")", x.target(e), targets[e]);
            check.due("label(" + e + ")", x.label(e), labels[e]);
        }
        check.due("source(3)", x.source(3), DyckReachability.NO_SUCH_INDEX);
        check.due("removeEdge(2)", x.removeEdge(2), 2);
        check.due("removeEdge(0)", x.removeEdge(0), 1);
        check.due("label(0)", x.label(0), 3);
        check.due("removeEdge(0)", x.removeEdge(0), 0);
        check.due("removeEdge(0)", x.removeEdge(0), DyckReachability.NO_SUCH_INDEX);
    }

    private static void setLabelAnswersAndRefuses() {
        DyckReachability x = Check.graph("D201a10B");
        check.due("setLabel(2, 7)", x.setLabel(2, 7), DyckReachability.NO_SUCH_INDEX);
        check.due("setLabel(1, 7)", x.setLabel(1, 7), DyckReachability.BAD_VALUE);
        for (int bad : EXTREMES) {
            check.due("setLabel bad edge", x.setLabel(bad, 0), DyckReachability.NO_SUCH_INDEX);
            check.due("setLabel bad label", x.setLabel(0, bad), DyckReachability.BAD_VALUE);
        }
        check.due("setLabel(1, 0)", x.setLabel(1, 0), 5);
        check.due("label(1)", x.label(1), 0);
        check.due("label(0)", x.label(0), 1);
        check.due("setLabel(1, 6)", x.setLabel(1, 6), 0);
        check.due("setLabel(1, 6) again", x.setLabel(1, 6), 6);
        check.due("the same label is an action too", x.undo(), 2);
    }

    private static void undoGoesBack() {
        DyckReachability x = Check.graph("D301a12A");
        x.removeEdge(0);
        x.setLabel(0, 0);
        x.addEdge(2, 2, 5);
        check.due("undo of addEdge", x.undo(), 2);
        check.due("edgeCount", x.edgeCount(), 1);
        check.due("label(0)", x.label(0), 0);
        check.due("undo of setLabel", x.undo(), 1);
        check.due("label(0)", x.label(0), 4);
        check.due("undo of removeEdge", x.undo(), 0);
        check.due("edgeCount", x.edgeCount(), 2);
        check.due("label(0)", x.label(0), 1);
        check.due("label(1)", x.label(1), 4);
        check.due("pairCount", x.pairCount(), 4);
        check.due("undo of nothing", x.undo(), DyckReachability.NOT_POSSIBLE);
        check.due("edgeCount after it", x.edgeCount(), 2);
    }

    private static void undoRemembersFourteen() {
        DyckReachability x = Check.graph("D1");
        for (int e = 0; e < 16; e++) {
            x.addEdge(0, 0, e % 7);
        }
        for (int left = 13; left >= 0; left--) {
            check.due("undo", x.undo(), left);
            check.due("edgeCount", x.edgeCount(), left + 2);
        }
        check.due("fifteenth undo", x.undo(), DyckReachability.NOT_POSSIBLE);
        check.due("edgeCount", x.edgeCount(), 2);
        check.due("label(1)", x.label(1), 1);
        x.addEdge(0, 0, 6);
        check.due("undo after an action", x.undo(), 0);
        check.due("edgeCount", x.edgeCount(), 2);
    }

    private static void errorsAreNoActions() {
        DyckReachability x = Check.graph("D201.");
        x.addEdge(2, 0, 0);
        x.addEdge(0, 0, 7);
        x.removeEdge(1);
        x.setLabel(1, 0);
        x.setLabel(0, -1);
        check.due("undo after errors", x.undo(), DyckReachability.NOT_POSSIBLE);
        for (int e = 1; e < 16; e++) {
            x.addEdge(0, 0, 0);
        }
        x.addEdge(0, 0, 0);
        check.due("undo after FULL", x.undo(), 13);
        check.due("edgeCount", x.edgeCount(), 15);
    }

    private static void undoLeavesTheRest() {
        DyckReachability x = Check.graph("D201.");
        x.addEdge(1, 0, 0);
        x.append('0');
        x.observe(0, 1, 1);
        x.setSeed(9L);
        x.save(1);
        check.due("undo", x.undo(), 0);
        check.due("vertexCount", x.vertexCount(), 2);
        check.due("text", x.clearText(), 6);
        check.due("observations", x.clearObservations(), 1);
        check.due("seed", x.setSeed(0L), 9L);
        check.due("restore(1)", x.restore(1), 2);
    }
}

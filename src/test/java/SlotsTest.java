/** Promises 31 and 32: save, restore. */
public final class SlotsTest {
    private static final Check check = new Check();
    private static final int NO_SUCH_INDEX = DyckReachability.NO_SUCH_INDEX;
    private static final int NOT_POSSIBLE = DyckReachability.NOT_POSSIBLE;

    public static void main(String[] args) {
        wrongSlots();
        slotsAreApart();
        restoreForgets();
        saveIsNoAction();
        anEmptyGraphIsSavedToo();
        check.end();
    }

    private static void wrongSlots() {
        DyckReachability x = Check.graph("D201.");
        int[] wrong = {-1, 2, Integer.MIN_VALUE, Integer.MAX_VALUE};
        for (int slot : wrong) {
            check.due("save(" + slot + ")", x.save(slot), NO_SUCH_INDEX);
            check.due("restore(" + slot + ")", x.restore(slot), NO_SUCH_INDEX);
        }
        x.addEdge(0, 0, 0);
        check.due("restore of an empty slot", x.restore(0), NOT_POSSIBLE);
        check.due("it forgets nothing", x.undo(), 0);
    }

    private static void slotsAreApart() {
        DyckReachability x = Check.graph("D301a");
        check.due("save(0)", x.save(0), 1);
        x.addEdge(1, 2, 4);
        check.due("save(1)", x.save(1), 2);
        x.setLabel(0, 6);
        x.removeEdge(1);
        check.due("restore(1)", x.restore(1), 2);
        check.due("label(0)", x.label(0), 1);
        check.due("label(1)", x.label(1), 4);
        check.due("source(1)", x.source(1), 1);
        check.due("target(1)", x.target(1), 2);
        x.setLabel(0, 2);
        check.due("restore(0)", x.restore(0), 1);
        check.due("label(0)", x.label(0), 1);
        check.due("the slot keeps its edges", x.restore(1), 2);
        check.due("label(0)", x.label(0), 1);
        x.removeEdge(0);
        check.due("save(1) again", x.save(1), 1);
        check.due("restore(0)", x.restore(0), 1);
        check.due("restore(1)", x.restore(1), 1);
        check.due("label(0)", x.label(0), 4);
    }

    private static void restoreForgets() {
        DyckReachability x = Check.graph("D201.");
        x.save(0);
        x.addEdge(0, 0, 0);
        x.addEdge(0, 0, 0);
        x.observe(0, 0, 1);
        x.setSeed(4L);
        check.due("restore(0)", x.restore(0), 1);
        check.due("undo", x.undo(), NOT_POSSIBLE);
        check.due("observations", x.clearObservations(), 1);
        check.due("seed", x.setSeed(0L), 4L);
        check.due("text", x.clearText(), 5);
        check.due("vertexCount", x.vertexCount(), 2);
    }

    private static void saveIsNoAction() {
        DyckReachability x = Check.graph("D201.");
        x.addEdge(0, 0, 0);
        x.save(1);
        check.due("undo after save", x.undo(), 0);
        check.due("edgeCount", x.edgeCount(), 1);
        check.due("restore(1) after undo", x.restore(1), 2);
    }

    private static void anEmptyGraphIsSavedToo() {
        DyckReachability x = new DyckReachability();
        check.due("save(0)", x.save(0), 0);
        x.addEdge(0, 0, 0);
        check.due("restore(0)", x.restore(0), 0);
        check.due("edgeCount", x.edgeCount(), 0);
        check.due("restore(1)", x.restore(1), NOT_POSSIBLE);
    }
}

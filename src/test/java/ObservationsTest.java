/** Promises 24 to 26: observe, clearObservations, possibleLabels. */
public final class ObservationsTest {
    private static final Check check = new Check();
    private static final int BAD_VALUE = DyckReachability.BAD_VALUE;

    public static void main(String[] args) {
        observeCountsAndRefuses();
        possibleLabelsFollowTheGraph();
        verticesThatDoNotExist();
        check.end();
    }

    private static void observeCountsAndRefuses() {
        DyckReachability x = new DyckReachability();
        int[] bad = {-1, 8, Integer.MIN_VALUE, Integer.MAX_VALUE};
        for (int v : bad) {
            check.due("observe bad from", x.observe(v, 0, 0), BAD_VALUE);
            check.due("observe bad to", x.observe(0, v, 0), BAD_VALUE);
            check.due("observe bad b", x.observe(0, 0, v), BAD_VALUE);
        }
        check.due("observe(0, 0, 2)", x.observe(0, 0, 2), BAD_VALUE);
        check.due("clearObservations of none", x.clearObservations(), 0);
        for (int i = 1; i <= 6; i++) {
            check.due("observe number " + i, x.observe(7, 7, i % 2), i);
        }
        check.due("a seventh", x.observe(0, 0, 1), DyckReachability.FULL);
        check.due("a bad seventh", x.observe(8, 0, 1), BAD_VALUE);
        check.due("clearObservations", x.clearObservations(), 6);
        check.due("clearObservations again", x.clearObservations(), 0);
        check.due("observe after it", x.observe(0, 7, 0), 1);
    }

    private static void possibleLabelsFollowTheGraph() {
        DyckReachability x = Check.graph("D401a12A23B");
        check.due("no observations", x.possibleLabels(0), 127);
        x.observe(0, 2, 1);
        check.due("possibleLabels(0)", x.possibleLabels(0), 0b0000010);
        check.due("possibleLabels(1)", x.possibleLabels(1), 0b0010000);
        check.due("possibleLabels(2)", x.possibleLabels(2), 0b1111111);
        x.observe(2, 3, 0);
        check.due("possibleLabels(2) not empty", x.possibleLabels(2), 0b1111110);
        x.observe(1, 2, 1);
        check.due("possibleLabels(1) in conflict", x.possibleLabels(1), 0);
        check.due("possibleLabels(0) in conflict", x.possibleLabels(0), 0);
        check.due("labels as before", x.label(0) * 100 + x.label(1) * 10 + x.label(2), 145);
        x.setLabel(0, 0);
        check.due("after setLabel", x.possibleLabels(1), 1);
        x.undo();
        check.due("after undo", x.possibleLabels(1), 0);
        int[] wrong = {-1, 3, Integer.MIN_VALUE, Integer.MAX_VALUE};
        for (int e : wrong) {
            check.due("possibleLabels(" + e + ")", x.possibleLabels(e),
                    DyckReachability.NO_SUCH_INDEX);
        }
        check.due("clearObservations", x.clearObservations(), 3);
        check.due("afterwards", x.possibleLabels(0), 127);
    }

    private static void verticesThatDoNotExist() {
        DyckReachability x = Check.graph("D201.");
        x.observe(0, 2, 1);
        x.observe(2, 0, 1);
        x.observe(7, 7, 0);
        check.due("they count as true", x.possibleLabels(0), 127);
        x.clearText();
        Check.write(x, "D301.12.20.");
        x.load();
        check.due("now they exist", x.possibleLabels(0), 1);
        x.clearText();
        Check.write(x, "D800.");
        x.load();
        check.due("7 is reachable from 7", x.possibleLabels(0), 0);
    }
}

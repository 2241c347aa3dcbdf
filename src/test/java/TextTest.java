/** Promises 2 to 5: append, clearText, errorPosition, load. */
public final class TextTest {
    private static final Check check = new Check();
    private static final String SIXTEEN = "D3" + "01a".repeat(16);

    public static void main(String[] args) {
        appendCountsAndRefuses();
        clearTextTellsTheLength();
        errorPositions();
        loadReplacesTheGraph();
        loadForgetsStatesAndSlots();
        loadKeepsTextObservationsAndSeed();
        loadRefusesOtherTexts();
        check.end();
    }

    private static void appendCountsAndRefuses() {
        DyckReachability x = new DyckReachability();
        int[] bad = {-1, 256, 257, 68 + 256, Integer.MIN_VALUE, Integer.MAX_VALUE};
        for (int c : bad) {
            check.due("append(" + c + ")", x.append(c), DyckReachability.BAD_VALUE);
        }
        check.due("append(0)", x.append(0), 1);
        check.due("append(255)", x.append(255), 2);
        for (int i = 3; i <= 60; i++) {
            check.due("append('D')", x.append('D'), i);
        }
        check.due("append to 60", x.append('D'), DyckReachability.FULL);
        check.due("bad append to 60", x.append(256), DyckReachability.BAD_VALUE);
        check.due("length after refusals", x.clearText(), 60);
        check.due("append after clearText", x.append('D'), 1);
    }

    private static void clearTextTellsTheLength() {
        DyckReachability x = new DyckReachability();
        check.due("clearText of a new object", x.clearText(), 0);
        Check.write(x, "D2");
        check.due("clearText of D2", x.clearText(), 2);
        check.due("clearText again", x.clearText(), 0);
        check.due("errorPosition of the cleared text", x.errorPosition(), 0);
    }

    private static void errorAt(String text, int want) {
        DyckReachability x = new DyckReachability();
        Check.write(x, text);
        check.due("errorPosition of " + text, x.errorPosition(), want);
        check.due("load of " + text, x.load(),
                want == DyckReachability.NONE
                        ? (text.length() - 2) / 3
                        : DyckReachability.NOT_POSSIBLE);
        check.due("length of " + text + " afterwards", x.clearText(), text.length());
    }

    private static void errorPositions() {
        int none = DyckReachability.NONE;
        errorAt("", 0);
        errorAt("d", 0);
        errorAt("D", 1);
        errorAt("D0", 1);
        errorAt("D9", 1);
        errorAt("Da", 1);
        errorAt("D1", none);
        errorAt("D8", none);
        errorAt("D11", 2);
        errorAt("D10", 3);
        errorAt("D101", 3);
        errorAt("D100", 4);
        errorAt("D100d", 4);
        errorAt("D100D", 4);
        errorAt("D100 ", 4);
        errorAt("D100" + (char) 0, 4);
        errorAt("D100" + (char) 255, 4);
        errorAt("D8" + "77.76a75b74c73A72B71C", none);
        errorAt("D878.", 3);
        errorAt("D887.", 2);
        errorAt("D8/7.", 2);
        errorAt("D201.x1.", 5);
        errorAt(SIXTEEN, none);
        errorAt(SIXTEEN.substring(0, 49), 49);
        errorAt(SIXTEEN + "0", 50);
        errorAt(SIXTEEN + "x", 50);
        errorAt(SIXTEEN + "01a0123456", 50);
        errorAt("x" + SIXTEEN, 0);
    }

    private static void loadReplacesTheGraph() {
        DyckReachability x = Check.graph("D4" + "01.12a23b30c31A20B13C");
        int[] sources = {0, 1, 2, 3, 3, 2, 1};
        int[] targets = {1, 2, 3, 0, 1, 0, 3};
        check.due("vertexCount", x.vertexCount(), 4);
        check.due("edgeCount", x.edgeCount(), 7);
        for (int e = 0; e < 7; e++) {
            check.due("source(" + e + ")", x.source(e), sources[e]);
            check.due("target(" + e + ")", x.target(e), targets[e]);
            check.due("label(" + e + ")", x.label(e), e);
        }
        x.clearText();
        Check.write(x, "D2");
        check.due("load of D2", x.load(), 0);
        check.due("vertexCount of D2", x.vertexCount(), 2);
        check.due("edgeCount of D2", x.edgeCount(), 0);
        check.due("pairCount of D2", x.pairCount(), 2);
    }

    private static void loadForgetsStatesAndSlots() {
        DyckReachability x = Check.graph("D201.");
        x.addEdge(0, 0, 0);
        x.save(0);
        x.save(1);
        check.due("load again", x.load(), 1);
        check.due("undo after load", x.undo(), DyckReachability.NOT_POSSIBLE);
        check.due("restore(0) after load", x.restore(0), DyckReachability.NOT_POSSIBLE);
        check.due("restore(1) after load", x.restore(1), DyckReachability.NOT_POSSIBLE);
    }

    private static void loadKeepsTextObservationsAndSeed() {
        DyckReachability x = new DyckReachability();
        x.observe(0, 1, 1);
        x.setSeed(77L);
        Check.write(x, "D201.");
        check.due("load", x.load(), 1);
        check.due("possibleLabels(0)", x.possibleLabels(0), 1);
        check.due("seed after load", x.setSeed(0L), 77L);
        check.due("text after load", x.clearText(), 5);
        check.due("observations after load", x.clearObservations(), 1);
    }

    private static void loadRefusesOtherTexts() {
        DyckReachability x = Check.graph("D301.12.");
        x.addEdge(2, 0, 0);
        x.save(1);
        x.append('0');
        check.due("load of an unfinished edge", x.load(), DyckReachability.NOT_POSSIBLE);
        check.due("edgeCount after it", x.edgeCount(), 3);
        check.due("vertexCount after it", x.vertexCount(), 3);
        check.due("restore after it", x.restore(1), 3);
        x.addEdge(0, 0, 1);
        check.due("load refused again", x.load(), DyckReachability.NOT_POSSIBLE);
        check.due("undo after it", x.undo(), 0);
    }
}

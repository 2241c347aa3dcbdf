import java.math.BigInteger;

/** Promises 27 to 30: share, reliability, setSeed, simulate. */
public final class ChanceTest {
    private static final Check check = new Check();
    private static final int NO_SUCH_INDEX = DyckReachability.NO_SUCH_INDEX;
    private static final int BAD_VALUE = DyckReachability.BAD_VALUE;
    private static final int NOT_POSSIBLE = DyckReachability.NOT_POSSIBLE;
    private static final int[] EXTREMES = {-1, Integer.MIN_VALUE, Integer.MAX_VALUE};

    public static void main(String[] args) {
        shares();
        sharesRefuse();
        reliabilities();
        reliabilityRefuses();
        seeds();
        simulations();
        simulationOfSixteenEdges();
        drawnSteps();
        check.end();
    }

    private static void shares() {
        check.due("one edge", Check.graph("D201.").share(0), 40320);
        check.due("a loop", Check.graph("D200.").share(0), 0);
        for (int m = 1; m <= 8; m++) {
            check.due("one of " + m, Check.graph("D2" + "01.".repeat(m)).share(m - 1), 40320 / m);
        }
        DyckReachability pair = Check.graph("D401a12A23.");
        check.due("opening bracket", pair.share(0), 20160 + 40320 / 3);
        check.due("closing bracket", pair.share(1), 20160 + 40320 / 3);
        check.due("behind the brackets", pair.share(2), 40320 + 40320 / 3);
        DyckReachability ring = Check.graph("D801.12.23.34.45.56.67.70.");
        for (int e = 0; e < 8; e++) {
            check.due("ring share(" + e + ")", ring.share(e), 7 * 40320);
        }
        DyckReachability nested = Check.graph("D701a12b23c34C45B56A00.06.");
        int sum = 0;
        for (int e = 0; e < 8; e++) {
            sum += nested.share(e);
        }
        check.due("the shares make up the worth", sum, 40320 * (nested.pairCount() - 7));
    }

    private static void sharesRefuse() {
        DyckReachability x = Check.graph("D2" + "01.".repeat(9));
        check.due("share(8) of nine", x.share(8), NOT_POSSIBLE);
        check.due("share(9) of nine", x.share(9), NO_SUCH_INDEX);
        for (int e : EXTREMES) {
            check.due("share(" + e + ")", x.share(e), NO_SUCH_INDEX);
        }
        x.removeEdge(0);
        check.due("share(7) of eight", x.share(7), 40320 / 8);
        check.due("share(8) of eight", x.share(8), NO_SUCH_INDEX);
        check.due("no edges", Check.graph("D2").share(0), NO_SUCH_INDEX);
    }

    private static void reliabilities() {
        DyckReachability x = Check.graph("D401a12A23.");
        check.due("reliability(0, 2, 3)", x.reliability(0, 2, 3), 490);
        check.due("reliability(0, 3, 3)", x.reliability(0, 3, 3), 343);
        check.due("reliability(2, 3, 3)", x.reliability(2, 3, 3), 700);
        check.due("reliability(0, 1, 3)", x.reliability(0, 1, 3), 0);
        check.due("reliability(3, 3, 3)", x.reliability(3, 3, 3), 1000);
        check.due("nothing missing", x.reliability(0, 3, 0), 1000);
        check.due("all missing", x.reliability(0, 3, 10), 0);
        check.due("all missing, same vertex", x.reliability(1, 1, 10), 1000);
        check.due("no edges", Check.graph("D2").reliability(1, 1, 4), 1);
        check.due("no edges, other vertex", Check.graph("D2").reliability(0, 1, 4), 0);
        DyckReachability y = Check.graph("D2" + "01.".repeat(8));
        check.due("eight alike", y.reliability(0, 1, 5), 100000000 - 390625);
        check.due("eight alike, none missing", y.reliability(0, 1, 0), 100000000);
    }

    private static void reliabilityRefuses() {
        DyckReachability x = Check.graph("D2" + "01.".repeat(9));
        check.due("nine edges", x.reliability(0, 1, 5), NOT_POSSIBLE);
        check.due("nine edges, same vertex", x.reliability(0, 0, 5), NOT_POSSIBLE);
        check.due("nine edges, bad x", x.reliability(0, 1, 11), BAD_VALUE);
        check.due("nine edges, no vertex", x.reliability(2, 1, 11), NO_SUCH_INDEX);
        check.due("no target", x.reliability(0, 2, 5), NO_SUCH_INDEX);
        for (int bad : EXTREMES) {
            check.due("bad from", x.reliability(bad, 0, 5), NO_SUCH_INDEX);
            check.due("bad to", x.reliability(0, bad, 5), NO_SUCH_INDEX);
            check.due("bad x", x.reliability(0, 0, bad), BAD_VALUE);
        }
    }

    private static void seeds() {
        DyckReachability x = new DyckReachability();
        check.due("the first seed", x.setSeed(Long.MIN_VALUE), 0L);
        check.due("then", x.setSeed(Long.MAX_VALUE), Long.MIN_VALUE);
        check.due("then", x.setSeed(-1L), Long.MAX_VALUE);
        check.due("then", x.setSeed(0L), -1L);
    }

    private static void simulations() {
        DyckReachability x = Check.graph("D301.");
        x.setSeed(12L);
        int[] bad = {0, 41, -1, Integer.MIN_VALUE, Integer.MAX_VALUE};
        for (int m : bad) {
            check.due("simulate(" + m + ")", x.simulate(m), BAD_VALUE);
        }
        check.due("seed after errors", x.setSeed(0L), 12L);
        // From the seed 0 the first step draws 167951807: it adds an edge from 2 to 2, label 2.
        check.due("simulate(1)", x.simulate(1), 4);
        check.due("seed after a step", x.setSeed(0L), 1442695040888963407L);
        check.due("edgeCount", x.edgeCount(), 1);
        check.due("undo", x.undo(), NOT_POSSIBLE);
        x.simulate(40);
        long after = x.setSeed(0L);
        for (int i = 0; i < 40; i++) {
            x.simulate(1);
        }
        check.due("40 steps one by one", x.setSeed(0L), after);
    }

    /** With 16 edges a step that would add one leaves the edges as they are, but it counts. */
    private static void simulationOfSixteenEdges() {
        DyckReachability x = Check.graph("D2" + "01.".repeat(16));
        // 167951807 is odd, / 8 gives 20993975, also odd, / 64 % 7 gives 2: 1 to 1, label 2.
        check.due("simulate(1)", x.simulate(1), 3);
        DyckReachability y = Check.graph("D211b10B11b");
        check.due("just one of two alike goes", y.simulate(1), 3);
        check.due("one vertex", Check.graph("D1").simulate(40), 40);
    }

    /** The sum after one step that draws v. */
    private static void drawn(String text, int v, int want) {
        BigInteger all = BigInteger.ONE.shiftLeft(64);
        long seed = BigInteger.valueOf(v).shiftLeft(33)
                .subtract(new BigInteger("1442695040888963407"))
                .multiply(new BigInteger("6364136223846793005").modInverse(all))
                .longValue();
        DyckReachability x = Check.graph(text);
        x.setSeed(seed);
        check.due(text + " simulate(1) that draws " + v, x.simulate(1), want);
        check.due("the seed then", x.setSeed(0L), (long) v << 33);
    }

    private static void drawnSteps() {
        drawn("D2", 8, 3);
        drawn("D2", 8 + 64, 2);
        drawn("D2", 8 + 7 * 64, 3);
        drawn("D201.", 8, 2);
        drawn("D201.01.", 8, 3);
        drawn("D201.10.", 8, 3);
        drawn("D210.", 8, 4);
        drawn("D201a", 8, 3);
        drawn("D300.11.", 8 * 2, 4);
        drawn("D3" + "00a".repeat(15), 8, 4);
        drawn("D3" + "00a".repeat(16), 8, 3);
        drawn("D301.12.20.", 8 * 2, 6);
        // 2147483647 leads from 7 to 7; its label is 33554431 % 7 = 3.
        drawn("D877c67.", Integer.MAX_VALUE, 9);
        // 5 + 8 * 6 + 64 * 5 leads from 373 % 7 = 2 to 46 % 7 = 4 with the label 5.
        drawn("D712b", 5 + 8 * 6 + 64 * 5, 8);
        drawn("D712b24B", 5 + 8 * 6 + 64 * 5, 7);
    }
}

import java.math.BigInteger;

/**
 * The sentences under SHARES AND RELIABILITY and RANDOM SIMULATION that name a boundary, one by one
 * (promises 27 to 30).
 */
public final class LimitsOfChanceTest {
    private static final Check check = new Check();
    private static final int NO_SUCH_INDEX = DyckReachability.NO_SUCH_INDEX;
    private static final int BAD_VALUE = DyckReachability.BAD_VALUE;
    private static final int NOT_POSSIBLE = DyckReachability.NOT_POSSIBLE;
    private static final String RING = "D801.12.23.34.45.56.67.70.";

    public static void main(String[] args) {
        sharesOfAtMostEightEdges();
        wholeShares();
        reliabilityOfAtMostEightEdges();
        zeroToTenTenths();
        noneAndAllMissing();
        powersOfTen();
        seedsOfAnyValue();
        seedsOverflow();
        oneToFortySteps();
        eachPartOfADrawnStep();
        oneOfThoseAlikeGoes();
        sixteenEdges();
        theSumAfterEachStep();
        onlyTheSeedChanges();
        check.end();
    }

    /** "These two questions are only answered if the graph has at most 8 edges." */
    private static void sharesOfAtMostEightEdges() {
        for (int m = 0; m <= 16; m++) {
            DyckReachability x = Check.graph("D2" + "01.".repeat(m));
            for (int e = 0; e < m; e++) {
                int want = m <= 8 ? 40320 / m : NOT_POSSIBLE;
                check.due("share(" + e + ") of " + m, x.share(e), want);
            }
            check.due("share(" + m + ") of " + m, x.share(m), NO_SUCH_INDEX);
            check.due("share(-1) of " + m, x.share(-1), NO_SUCH_INDEX);
        }
        DyckReachability x = Check.graph("D2" + "01.".repeat(9));
        x.removeEdge(8);
        check.due("once there are eight", x.share(7), 5040);
        x.addEdge(0, 1, 0);
        check.due("once there are nine", x.share(7), NOT_POSSIBLE);
    }

    /** "40320 times the fair share is always a whole number." */
    private static void wholeShares() {
        check.due("a loop", Check.graph("D100.").share(0), 0);
        check.due("a bracket without another", Check.graph("D201a").share(0), 0);
        DyckReachability brackets = Check.graph("D301a12A");
        check.due("an opening bracket", brackets.share(0), 20160);
        check.due("a closing bracket", brackets.share(1), 20160);
        DyckReachability ring = Check.graph(RING);
        for (int e = 0; e < 8; e++) {
            check.due("share(" + e + ") of the ring", ring.share(e), 40320 * 56 / 8);
        }
        // Two ways with the first edge in common: 0 gains 2 of 3 orders, the others 1 of 6 each.
        DyckReachability ways = Check.graph("D301a12A12A");
        check.due("the edge of both ways", ways.share(0), 40320 * 2 / 3);
        check.due("the edge of one way", ways.share(1), 40320 / 6);
        check.due("the edge of the other", ways.share(2), 40320 / 6);
    }

    private static void reliabilityOfAtMostEightEdges() {
        int whole = 1;
        for (int m = 0; m <= 16; m++) {
            DyckReachability x = Check.graph("D2" + "01.".repeat(m));
            check.due("reliability(0, 0, 5) of " + m, x.reliability(0, 0, 5),
                    m <= 8 ? whole : NOT_POSSIBLE);
            check.due("reliability(1, 0, 5) of " + m, x.reliability(1, 0, 5),
                    m <= 8 ? 0 : NOT_POSSIBLE);
            check.due("reliability(0, 1, 11) of " + m, x.reliability(0, 1, 11), BAD_VALUE);
            check.due("reliability(0, 2, 5) of " + m, x.reliability(0, 2, 5), NO_SUCH_INDEX);
            whole = m < 8 ? 10 * whole : whole;
        }
    }

    /** "x: tenths, 0 to 10" */
    private static void zeroToTenTenths() {
        DyckReachability x = Check.graph("D201.");
        for (int tenths = 0; tenths <= 10; tenths++) {
            check.due("x = " + tenths, x.reliability(0, 1, tenths), 10 - tenths);
        }
        for (int tenths : new int[] {-1, 11, Integer.MIN_VALUE, Integer.MAX_VALUE}) {
            check.due("x = " + tenths, x.reliability(0, 1, tenths), BAD_VALUE);
        }
    }

    /** "each edge is missing with probability x / 10": none at 0, all at 10 */
    private static void noneAndAllMissing() {
        DyckReachability ring = Check.graph(RING);
        for (int v = 0; v < 8; v++) {
            int self = v == 0 ? 100000000 : 0;
            check.due("none missing, to " + v, ring.reliability(0, v, 0), 100000000);
            check.due("all missing, to " + v, ring.reliability(0, v, 10), self);
        }
        DyckReachability empty = Check.graph("D2");
        for (int tenths = 0; tenths <= 10; tenths++) {
            check.due("no edges, the same", empty.reliability(1, 1, tenths), 1);
            check.due("no edges, another", empty.reliability(0, 1, tenths), 0);
        }
    }

    /** "10 to the power of m times the reliability is always a whole number" */
    private static void powersOfTen() {
        int missing = 1;
        int whole = 1;
        for (int m = 0; m <= 8; m++) {
            DyckReachability x = Check.graph("D2" + "01.".repeat(m));
            check.due(m + " alike", x.reliability(0, 1, 9), whole - missing);
            missing *= 9;
            whole *= 10;
        }
        int present = 1;
        for (int m = 1; m <= 7; m++) {
            present *= 3;
            DyckReachability line = Check.graph(RING.substring(0, 2 + 3 * m));
            check.due(m + " in a line", line.reliability(0, m, 7), present);
        }
    }

    /** "a long that starts at 0"; "Returns the previous seed." */
    private static void seedsOfAnyValue() {
        DyckReachability x = new DyckReachability();
        long previous = 0L;
        long[] seeds = {1L, -1L, Long.MAX_VALUE, Long.MIN_VALUE, 1L << 32, -9L, -2L, 0L};
        for (long seed : seeds) {
            check.due("setSeed(" + seed + ")", x.setSeed(seed), previous);
            previous = seed;
        }
        check.due("the last one", x.setSeed(5L), previous);
    }

    private static void steps(long seed, long afterOne, long afterTwo, long afterForty) {
        DyckReachability x = Check.graph("D3");
        x.setSeed(seed);
        x.simulate(1);
        check.due("one step from " + seed, x.setSeed(afterOne), afterOne);
        x.simulate(1);
        check.due("two steps from " + seed, x.setSeed(seed), afterTwo);
        x.simulate(2);
        check.due("two steps at once from " + seed, x.setSeed(seed), afterTwo);
        x.simulate(40);
        check.due("forty steps from " + seed, x.setSeed(0L), afterForty);
    }

    /** "seed * 6364136223846793005L + 1442695040888963407L (with long overflow)" */
    private static void seedsOverflow() {
        steps(0L, 1442695040888963407L, 1876011003808476466L, 2334851202895766344L);
        steps(1L, 7806831264735756412L, -9049835345590740197L, 5638592747408768233L);
        steps(-1L, -4921441182957829598L, -5644886720501858487L, -968890341617235545L);
        steps(Long.MAX_VALUE, 4301930853896946210L, 3578485316352917321L, 8254481695237540263L);
        steps(Long.MIN_VALUE, -7780676995965812401L, -7347361033046299342L, -6888520833959009464L);
    }

    /** "m: number of steps, 1 to 40"; "BAD_VALUE if m is out of range (the seed does not change)" */
    private static void oneToFortySteps() {
        DyckReachability x = Check.graph("D201.");
        for (int m : new int[] {0, 41, -1, Integer.MIN_VALUE, Integer.MAX_VALUE}) {
            x.setSeed(-77L);
            check.due("simulate(" + m + ")", x.simulate(m), BAD_VALUE);
            check.due("the seed after it", x.setSeed(0L), -77L);
        }
        for (int m = 1; m <= 40; m++) {
            check.due("simulate(" + m + ") of one vertex", new DyckReachability().simulate(m), m);
        }
    }

    /** A seed whose next step draws v. */
    private static long seedBefore(int v) {
        BigInteger all = BigInteger.ONE.shiftLeft(64);
        return BigInteger.valueOf(v).shiftLeft(33)
                .subtract(new BigInteger("1442695040888963407"))
                .multiply(new BigInteger("6364136223846793005").modInverse(all))
                .longValue();
    }

    private static void drawn(String text, int v, int want) {
        DyckReachability x = Check.graph(text);
        x.setSeed(seedBefore(v));
        check.due(text + " simulate(1) that draws " + v, x.simulate(1), want);
        check.due("the seed after it", x.setSeed(0L), (long) v << 33);
    }

    /** "The source is v % n, the target is v / 8 % n and the label is v / 64 % 7" */
    private static void eachPartOfADrawnStep() {
        for (int n = 1; n <= 8; n++) {
            for (int v = 0; v < 448; v += 5) {
                int source = v % n;
                int target = v / 8 % n;
                int label = v / 64 % 7;
                String edge = "" + source + target + ".abcABC".charAt(label);
                // It adds an empty edge, and it takes away the one that makes a pair reachable.
                drawn("D" + n, v, label == 0 && source != target ? n + 1 : n);
                if (label == 0) {
                    drawn("D" + n + edge, v, n);
                }
            }
        }
        for (int kind = 1; kind <= 3; kind++) {
            // From 0 to 1 in a graph of 8 vertices, and from 1 to 2 to close it.
            String closing = "D812" + ".ABC".charAt(kind);
            String opening = "D801" + ".abc".charAt(kind);
            drawn(closing, 8 + 64 * kind, 9);
            drawn(opening, 1 + 8 * 2 + 64 * (kind + 3), 9);
            drawn(opening + closing.substring(2), 8 + 64 * kind, 8);
            drawn(opening + closing.substring(2), 1 + 8 * 2 + 64 * (kind + 3), 8);
        }
        drawn("D8", 8 + 448, 9);
        drawn("D877c67.", Integer.MAX_VALUE, 9);
        drawn("D8", Integer.MAX_VALUE, 8);
        drawn("D8", 0, 8);
    }

    /** "the step removes the one with the smallest number": of edges that are alike, just one. */
    private static void oneOfThoseAlikeGoes() {
        drawn("D201.", 8, 2);
        drawn("D201.01.", 8, 3);
        drawn("D201.10.", 8, 3);
        drawn("D210.01.", 8, 3);
        drawn("D201a", 8, 3);
        drawn("D2" + "01.".repeat(16), 8, 3);
    }

    /**
     * "Otherwise it adds such an edge, unless there are 16 edges." From the seed 0 the first steps
     * in a graph of 2 vertices draw 11b, 01., 10c and 00C.
     */
    private static void sixteenEdges() {
        drawn("D2" + "00a".repeat(15), 8, 3);
        drawn("D2" + "00a".repeat(16), 8, 2);
        drawn("D2" + "00a".repeat(15) + "01.", 8, 2);
        int[] sums = {12, 2 + 3 + 3 + 3, 2 + 3 + 3 + 3, 8, 8};
        for (int more = 0; more <= 4; more++) {
            DyckReachability x = Check.graph("D2" + "00a".repeat(12 + more));
            check.due("four steps with " + (12 + more) + " edges", x.simulate(4), sums[more]);
        }
        DyckReachability x = Check.graph("D2" + "11b".repeat(16));
        check.due("one goes, one comes, then it is full", x.simulate(4), 2 + 3 + 3 + 3);
    }

    /** "its result is the sum of the pair counts after each step" */
    private static void theSumAfterEachStep() {
        int[] sums = {2, 5, 8, 12};
        for (int m = 1; m <= 4; m++) {
            check.due("simulate(" + m + ") of D2", Check.graph("D2").simulate(m), sums[m - 1]);
        }
        DyckReachability x = Check.graph(RING);
        x.setSeed(seedBefore(8));
        check.due("the step that takes the first edge", x.simulate(1), 36);
        x.setSeed(seedBefore(0));
        check.due("a step that adds a loop", x.simulate(1), 64);
    }

    /** "A simulation changes only the seed of the object." */
    private static void onlyTheSeedChanges() {
        for (int m : new int[] {1, 2, 40}) {
            DyckReachability x = Check.graph("D301a12A");
            x.setLabel(0, 1);
            x.save(1);
            x.observe(0, 2, 1);
            x.simulate(m);
            x.setSeed(11L);
            check.same("after " + m + " steps", State.of(x), "D301a12A, seed 11, labels 2 16,"
                    + " observations 1, before 0: 2 1 4, slot 0 empty, slot 1 D301a12A,"
                    + " text with a fault at -9 D301a12A and length 8");
        }
    }
}

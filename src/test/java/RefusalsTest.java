import java.util.function.Supplier;
import java.util.function.ToLongFunction;

/**
 * ERRORS, and "A call that returns an error changes nothing": which of several errors a call
 * returns, and that refused calls and questions leave the object as it was. Each call is made on
 * one of two objects that had the same calls before; then all that can be read of both is compared.
 */
public final class RefusalsTest {
    private static final Check check = new Check();
    private static final int NO_SUCH_INDEX = DyckReachability.NO_SUCH_INDEX;
    private static final int BAD_VALUE = DyckReachability.BAD_VALUE;
    private static final int NOT_POSSIBLE = DyckReachability.NOT_POSSIBLE;
    private static final int FULL = DyckReachability.FULL;
    private static final int NONE = DyckReachability.NONE;

    public static void main(String[] args) {
        statesAreReadWhole();
        refusedByANewObject();
        refusedInAnyState("usual", RefusalsTest::usual);
        refusedInAnyState("full", RefusalsTest::full);
        refusedByTheFull();
        severalErrors();
        questionsChangeNothing("usual", RefusalsTest::usual);
        questionsChangeNothing("full", RefusalsTest::full);
        check.end();
    }

    /** Three vertices; actions, observations, both slots and the seed are in use. */
    private static DyckReachability usual() {
        DyckReachability x = Check.graph("D301a12A");
        x.save(0);
        x.addEdge(2, 0, 0);
        x.save(1);
        x.setLabel(0, 2);
        x.removeEdge(1);
        x.observe(0, 2, 0);
        x.observe(2, 0, 1);
        x.setSeed(99L);
        return x;
    }

    /** Eight vertices, 16 edges, 14 states, 6 observations and 60 characters. */
    private static DyckReachability full() {
        DyckReachability x = Check.graph("D8" + "01a12A23b34B45c56C67.70.".repeat(2));
        Check.write(x, "0123456789");
        for (int i = 0; i < 15; i++) {
            x.setLabel(i, i % 7);
            x.setLabel(0, i % 5);
        }
        x.save(1);
        for (int i = 0; i < 6; i++) {
            x.observe(i + 2, i, i % 2);
        }
        x.setSeed(Long.MIN_VALUE);
        return x;
    }

    private static void leavesAll(String call, Supplier<DyckReachability> made,
            ToLongFunction<DyckReachability> asked) {
        DyckReachability x = made.get();
        asked.applyAsLong(x);
        check.same("after " + call, State.of(x), State.of(made.get()));
    }

    private static void refuses(String call, Supplier<DyckReachability> made,
            ToLongFunction<DyckReachability> asked, long want) {
        check.due(call, asked.applyAsLong(made.get()), want);
        leavesAll(call, made, asked);
    }

    private static void statesAreReadWhole() {
        check.same("usual", State.of(usual()), "D301b20., seed 99, labels 127 1, observations 2,"
                + " before 2: 3 2 0, before 1: 3 1 0, before 0: 2 1 4, slot 0 D301a12A,"
                + " slot 1 D301a12A20., text with a fault at -9 D301a12A and length 8");
        String read = State.of(full());
        check.holds("16 edges in " + read, read.startsWith("D8") && read.indexOf(',') == 50);
        check.holds("6 observations", read.contains(", observations 6,"));
        check.holds("14 states", read.contains(", before 13: ") && !read.contains(", before 14: "));
        check.holds("60 characters", read.endsWith(", text with a fault at 50 and length 60"));
    }

    private static void refusedByANewObject() {
        Supplier<DyckReachability> made = DyckReachability::new;
        refuses("load", made, x -> x.load(), NOT_POSSIBLE);
        refuses("source(0)", made, x -> x.source(0), NO_SUCH_INDEX);
        refuses("target(0)", made, x -> x.target(0), NO_SUCH_INDEX);
        refuses("label(0)", made, x -> x.label(0), NO_SUCH_INDEX);
        refuses("addEdge(1, 0, 0)", made, x -> x.addEdge(1, 0, 0), NO_SUCH_INDEX);
        refuses("addEdge(0, 1, 0)", made, x -> x.addEdge(0, 1, 0), NO_SUCH_INDEX);
        refuses("addEdge(0, 0, 7)", made, x -> x.addEdge(0, 0, 7), BAD_VALUE);
        refuses("removeEdge(0)", made, x -> x.removeEdge(0), NO_SUCH_INDEX);
        refuses("setLabel(0, 0)", made, x -> x.setLabel(0, 0), NO_SUCH_INDEX);
        refuses("undo", made, x -> x.undo(), NOT_POSSIBLE);
        refuses("criticalEdge", made, x -> x.criticalEdge(), NONE);
        refuses("restore(0)", made, x -> x.restore(0), NOT_POSSIBLE);
        refuses("restore(1)", made, x -> x.restore(1), NOT_POSSIBLE);
    }

    private static void refusedInAnyState(String state, Supplier<DyckReachability> made) {
        String in = state + ": ";
        refuses(in + "append(-1)", made, x -> x.append(-1), BAD_VALUE);
        refuses(in + "append(256)", made, x -> x.append(256), BAD_VALUE);
        refuses(in + "addEdge(8, 0, 0)", made, x -> x.addEdge(8, 0, 0), NO_SUCH_INDEX);
        refuses(in + "addEdge(0, -1, 0)", made, x -> x.addEdge(0, -1, 0), NO_SUCH_INDEX);
        refuses(in + "addEdge(0, 0, 7)", made, x -> x.addEdge(0, 0, 7), BAD_VALUE);
        refuses(in + "addEdge(0, 0, -1)", made, x -> x.addEdge(0, 0, -1), BAD_VALUE);
        refuses(in + "removeEdge(16)", made, x -> x.removeEdge(16), NO_SUCH_INDEX);
        refuses(in + "removeEdge(-1)", made, x -> x.removeEdge(-1), NO_SUCH_INDEX);
        refuses(in + "setLabel(16, 0)", made, x -> x.setLabel(16, 0), NO_SUCH_INDEX);
        refuses(in + "setLabel(-1, 0)", made, x -> x.setLabel(-1, 0), NO_SUCH_INDEX);
        refuses(in + "setLabel(0, 7)", made, x -> x.setLabel(0, 7), BAD_VALUE);
        refuses(in + "setLabel(0, -1)", made, x -> x.setLabel(0, -1), BAD_VALUE);
        refuses(in + "runScript(0, 0)", made, x -> x.runScript(0, 0L), BAD_VALUE);
        refuses(in + "runScript(5, 0)", made, x -> x.runScript(5, 0L), BAD_VALUE);
        refuses(in + "runScript(1, 20002000)", made, x -> x.runScript(1, 20002000L), BAD_VALUE);
        refuses(in + "runScript(1, -2000)", made, x -> x.runScript(1, -2000L), BAD_VALUE);
        refuses(in + "observe(8, 0, 0)", made, x -> x.observe(8, 0, 0), BAD_VALUE);
        refuses(in + "observe(0, -1, 0)", made, x -> x.observe(0, -1, 0), BAD_VALUE);
        refuses(in + "observe(0, 0, 2)", made, x -> x.observe(0, 0, 2), BAD_VALUE);
        refuses(in + "possibleLabels(16)", made, x -> x.possibleLabels(16), NO_SUCH_INDEX);
        refuses(in + "loss(16)", made, x -> x.loss(16), NO_SUCH_INDEX);
        refuses(in + "share(16)", made, x -> x.share(16), NO_SUCH_INDEX);
        refuses(in + "reliability(0, 8, 5)", made, x -> x.reliability(0, 8, 5), NO_SUCH_INDEX);
        refuses(in + "reliability(0, 0, 11)", made, x -> x.reliability(0, 0, 11), BAD_VALUE);
        refuses(in + "simulate(0)", made, x -> x.simulate(0), BAD_VALUE);
        refuses(in + "simulate(41)", made, x -> x.simulate(41), BAD_VALUE);
        refuses(in + "save(2)", made, x -> x.save(2), NO_SUCH_INDEX);
        refuses(in + "save(-1)", made, x -> x.save(-1), NO_SUCH_INDEX);
        refuses(in + "restore(2)", made, x -> x.restore(2), NO_SUCH_INDEX);
        refuses(in + "restore(-1)", made, x -> x.restore(-1), NO_SUCH_INDEX);
    }

    private static void refusedByTheFull() {
        Supplier<DyckReachability> made = RefusalsTest::full;
        refuses("append to 60", made, x -> x.append('D'), FULL);
        refuses("load of 60", made, x -> x.load(), NOT_POSSIBLE);
        refuses("addEdge to 16", made, x -> x.addEdge(0, 0, 0), FULL);
        refuses("observe after 6", made, x -> x.observe(0, 0, 0), FULL);
        refuses("share of 16", made, x -> x.share(0), NOT_POSSIBLE);
        refuses("reliability of 16", made, x -> x.reliability(0, 0, 5), NOT_POSSIBLE);
        refuses("restore of an empty slot", made, x -> x.restore(0), NOT_POSSIBLE);
    }

    /** "If several errors apply to a call, the one that is listed first ... is returned." */
    private static void severalErrors() {
        DyckReachability x = full();
        check.due("append: BAD_VALUE, FULL", x.append(256), BAD_VALUE);
        check.due("append: BAD_VALUE, FULL", x.append(-1), BAD_VALUE);
        check.due("addEdge: NO_SUCH_INDEX, BAD_VALUE, FULL", x.addEdge(8, 0, 7), NO_SUCH_INDEX);
        check.due("addEdge: NO_SUCH_INDEX, BAD_VALUE, FULL", x.addEdge(0, 8, -1), NO_SUCH_INDEX);
        check.due("addEdge: NO_SUCH_INDEX, FULL", x.addEdge(-1, 0, 0), NO_SUCH_INDEX);
        check.due("addEdge: NO_SUCH_INDEX, FULL", x.addEdge(0, -1, 0), NO_SUCH_INDEX);
        check.due("addEdge: BAD_VALUE, FULL", x.addEdge(0, 0, 7), BAD_VALUE);
        check.due("addEdge: BAD_VALUE, FULL", x.addEdge(0, 0, -1), BAD_VALUE);
        check.due("setLabel: NO_SUCH_INDEX, BAD_VALUE", x.setLabel(16, 7), NO_SUCH_INDEX);
        check.due("setLabel: NO_SUCH_INDEX, BAD_VALUE", x.setLabel(-1, -1), NO_SUCH_INDEX);
        check.due("witnessEdge: NO_SUCH_INDEX, NONE", x.witnessEdge(8, 0, -1), NO_SUCH_INDEX);
        check.due("witnessEdge: NO_SUCH_INDEX, NONE", x.witnessEdge(0, 8, 999), NO_SUCH_INDEX);
        check.due("observe: BAD_VALUE, FULL", x.observe(-1, 0, 0), BAD_VALUE);
        check.due("observe: BAD_VALUE, FULL", x.observe(0, 8, 0), BAD_VALUE);
        check.due("observe: BAD_VALUE, FULL", x.observe(0, 0, 2), BAD_VALUE);
        check.due("share: NO_SUCH_INDEX, NOT_POSSIBLE", x.share(16), NO_SUCH_INDEX);
        check.due("share: NO_SUCH_INDEX, NOT_POSSIBLE", x.share(-1), NO_SUCH_INDEX);
        check.due("reliability: all three", x.reliability(8, 0, 11), NO_SUCH_INDEX);
        check.due("reliability: all three", x.reliability(0, -1, -1), NO_SUCH_INDEX);
        check.due("reliability: NO_SUCH_INDEX, NOT_POSSIBLE", x.reliability(0, 8, 0), NO_SUCH_INDEX);
        check.due("reliability: BAD_VALUE, NOT_POSSIBLE", x.reliability(0, 0, 11), BAD_VALUE);
        check.due("reliability: BAD_VALUE, NOT_POSSIBLE", x.reliability(0, 0, -1), BAD_VALUE);
        DyckReachability y = usual();
        check.due("addEdge: NO_SUCH_INDEX, BAD_VALUE", y.addEdge(3, 0, 7), NO_SUCH_INDEX);
        check.due("reliability: NO_SUCH_INDEX, BAD_VALUE", y.reliability(0, 3, 11), NO_SUCH_INDEX);
        check.due("witnessEdge: not reachable, i too great", y.witnessEdge(0, 1, 5), NONE);
    }

    private static void questionsChangeNothing(String state, Supplier<DyckReachability> made) {
        String in = state + ": ";
        leavesAll(in + "errorPosition", made, x -> x.errorPosition());
        leavesAll(in + "vertexCount", made, x -> x.vertexCount());
        leavesAll(in + "edgeCount", made, x -> x.edgeCount());
        leavesAll(in + "source", made, x -> x.source(1));
        leavesAll(in + "target", made, x -> x.target(1));
        leavesAll(in + "label", made, x -> x.label(1));
        leavesAll(in + "reachableFrom", made, x -> x.reachableFrom(2));
        leavesAll(in + "pairCount", made, x -> x.pairCount());
        leavesAll(in + "distance", made, x -> x.distance(2, 0));
        leavesAll(in + "witnessEdge", made, x -> x.witnessEdge(2, 0, 0));
        leavesAll(in + "depth", made, x -> x.depth(2, 0));
        leavesAll(in + "loss", made, x -> x.loss(1));
        leavesAll(in + "criticalEdge", made, x -> x.criticalEdge());
        leavesAll(in + "representative", made, x -> x.representative(2));
        leavesAll(in + "runScript", made, x -> x.runScript(4, 2000200010004003L));
        leavesAll(in + "possibleLabels", made, x -> x.possibleLabels(1));
        leavesAll(in + "share", made, x -> x.share(1));
        leavesAll(in + "reliability", made, x -> x.reliability(2, 0, 5));
    }
}

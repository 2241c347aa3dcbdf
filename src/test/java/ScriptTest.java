/** Promise 23: runScript. */
public final class ScriptTest {
    private static final Check check = new Check();
    private static final int NONE = DyckReachability.NONE;
    private static final int BAD_VALUE = DyckReachability.BAD_VALUE;

    public static void main(String[] args) {
        wrongArguments();
        adding();
        removing();
        asking();
        otherGroups();
        severalCommands();
        onlyACopyChanges();
        check.end();
    }

    private static void one(DyckReachability x, long script, boolean succeeds) {
        check.due("runScript(1, " + script + ")", x.runScript(1, script), succeeds ? NONE : 0);
    }

    private static void wrongArguments() {
        DyckReachability x = Check.graph("D2");
        check.due("n = 0", x.runScript(0, 0L), BAD_VALUE);
        check.due("n = 5", x.runScript(5, 4002L), BAD_VALUE);
        check.due("n = MIN", x.runScript(Integer.MIN_VALUE, 4002L), BAD_VALUE);
        check.due("n = MAX", x.runScript(Integer.MAX_VALUE, 4002L), BAD_VALUE);
        check.due("script = -1", x.runScript(1, -1L), BAD_VALUE);
        check.due("script = MIN", x.runScript(4, Long.MIN_VALUE), BAD_VALUE);
        check.due("script = MAX", x.runScript(4, Long.MAX_VALUE), BAD_VALUE);
        check.due("five digits", x.runScript(1, 10000L), BAD_VALUE);
        check.due("nine digits", x.runScript(2, 100000000L), BAD_VALUE);
        check.due("thirteen digits", x.runScript(3, 1000000000000L), BAD_VALUE);
        check.due("seventeen digits", x.runScript(4, 10000000000000000L), BAD_VALUE);
        check.due("sixteen digits", x.runScript(4, 9999999999999999L), 0);
        check.due("digits of a smaller n", x.runScript(4, 4002L), 0);
        check.due("0", x.runScript(1, 0L), 0);
    }

    private static void adding() {
        DyckReachability x = Check.graph("D2");
        one(x, 1010, true);
        one(x, 1116, true);
        one(x, 1017, false);
        one(x, 1019, false);
        one(x, 1020, false);
        one(x, 1200, false);
        one(x, 1990, false);
        DyckReachability y = Check.graph("D2" + "01.".repeat(14));
        check.due("the 17th edge", y.runScript(3, 101010101010L), 2);
        check.due("a 16th again", y.runScript(4, 1010101020150000L + 1010L), NONE);
    }

    private static void removing() {
        DyckReachability x = Check.graph("D2" + "01.".repeat(16));
        one(x, 2000, true);
        one(x, 2015, true);
        one(x, 2016, false);
        one(x, 2099, false);
        one(x, 2100, false);
        check.due("edges move up", x.runScript(2, 20152015L), 1);
        one(Check.graph("D1"), 2000, false);
        check.due("the right one", Check.graph("D301.12.").runScript(3, 200030103121L), NONE);
    }

    private static void asking() {
        DyckReachability x = Check.graph("D301a12A20.");
        one(x, 3021, true);
        one(x, 3020, false);
        one(x, 3010, true);
        one(x, 3011, false);
        one(x, 3022, false);
        one(x, 3009, false);
        one(x, 3300, false);
        one(x, 3030, false);
        one(x, 4005, true);
        one(x, 4004, false);
        one(x, 4105, false);
        one(x, 5022, true);
        one(x, 5021, false);
        one(x, 5010, false);
        one(x, 5000, true);
        one(x, 5001, false);
        one(x, 5030, false);
        one(x, 5300, false);
        one(Check.graph("D801.12.23.34.45.56.67.70."), 4064, true);
        one(Check.graph("D845A07c71c76B67b46a42B27B50c13b53A15a31a34C26c21C"), 5366, false);
    }

    private static void otherGroups() {
        DyckReachability x = Check.graph("D2");
        long[] others = {0, 1, 999, 6000, 7010, 8000, 9999};
        for (long other : others) {
            one(x, other, false);
        }
    }

    private static void severalCommands() {
        DyckReachability x = Check.graph("D3");
        check.due("all succeed", x.runScript(4, 1011112450224004L), NONE);
        check.due("the last fails", x.runScript(4, 1011112450224005L), 3);
        check.due("the third fails", x.runScript(4, 1011112550224004L), 2);
        check.due("the first fails", x.runScript(3, 131111245022L), 0);
        check.due("two commands", x.runScript(2, 10125012L), 1);
    }

    private static void onlyACopyChanges() {
        DyckReachability x = Check.graph("D201.");
        x.setSeed(3L);
        check.due("script", x.runScript(3, 200010101004L), NONE);
        check.due("edgeCount", x.edgeCount(), 1);
        check.due("label(0)", x.label(0), 0);
        check.due("undo", x.undo(), DyckReachability.NOT_POSSIBLE);
        check.due("seed", x.setSeed(0L), 3L);
    }
}

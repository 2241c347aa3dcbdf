/** The sentences under SCRIPTS that name a boundary, one by one (promise 23). */
public final class LimitsOfScriptsTest {
    private static final Check check = new Check();
    private static final int NONE = DyckReachability.NONE;
    private static final int BAD_VALUE = DyckReachability.BAD_VALUE;

    public static void main(String[] args) {
        oneToFourCommands();
        digits();
        theHighestGroupIsFirst();
        adding();
        addingToSixteen();
        removing();
        reaching();
        countingPairs();
        measuring();
        allOtherGroups();
        theFirstThatFails();
        onlyTheCopyChanges();
        check.end();
    }

    private static void one(DyckReachability x, int group, boolean succeeds) {
        String call = "runScript(1, " + group + ")";
        check.due(call, x.runScript(1, group), succeeds ? NONE : 0);
    }

    /** "n: number of commands, 1 to 4" */
    private static void oneToFourCommands() {
        DyckReachability x = Check.graph("D2");
        for (int n : new int[] {Integer.MIN_VALUE, -1, 0, 5, Integer.MAX_VALUE}) {
            check.due("n = " + n + ", script 0", x.runScript(n, 0L), BAD_VALUE);
            check.due("n = " + n + ", script 4002", x.runScript(n, 4002L), BAD_VALUE);
            check.due("n = " + n + ", script -1", x.runScript(n, -1L), BAD_VALUE);
            check.due("n = " + n + ", long script", x.runScript(n, Long.MAX_VALUE), BAD_VALUE);
        }
        check.due("n = 1", x.runScript(1, 4002L), NONE);
        check.due("n = 2", x.runScript(2, 40024002L), NONE);
        check.due("n = 3", x.runScript(3, 400240024002L), NONE);
        check.due("n = 4", x.runScript(4, 4002400240024002L), NONE);
    }

    /** "BAD_VALUE ... if script is negative or has more than 4 * n digits" */
    private static void digits() {
        DyckReachability x = Check.graph("D2");
        long most = 9999L;
        for (int n = 1; n <= 4; n++) {
            check.due("the greatest of n = " + n, x.runScript(n, most), 0);
            check.due("one digit more, n = " + n, x.runScript(n, most + 1), BAD_VALUE);
            check.due("the greatest long, n = " + n, x.runScript(n, Long.MAX_VALUE), BAD_VALUE);
            check.due("0, n = " + n, x.runScript(n, 0L), 0);
            check.due("-1, n = " + n, x.runScript(n, -1L), BAD_VALUE);
            check.due("-4002, n = " + n, x.runScript(n, -4002L), BAD_VALUE);
            check.due("the least long, n = " + n, x.runScript(n, Long.MIN_VALUE), BAD_VALUE);
            most = 10000 * most + 9999;
        }
    }

    /** "the first command is the highest group of the number" */
    private static void theHighestGroupIsFirst() {
        DyckReachability x = Check.graph("D2");
        check.due("add and then count", x.runScript(2, 10104003L), NONE);
        check.due("count and then add", x.runScript(2, 40031010L), 0);
        check.due("fewer digits: 0000 is first", x.runScript(2, 4002L), 0);
        check.due("fewer digits: 0004 is first", x.runScript(2, 44002L), 0);
    }

    /** "1 u v l ...: fails if u or v is not a vertex, if l is not a label" */
    private static void adding() {
        for (int n = 1; n <= 8; n++) {
            DyckReachability x = Check.graph("D" + n);
            for (int v = 0; v <= 9; v++) {
                one(x, 1000 + 100 * v, v < n);
                one(x, 1000 + 10 * v, v < n);
            }
            for (int label = 0; label <= 9; label++) {
                one(x, 1000 + 110 * (n - 1) + label, label <= 6);
            }
        }
        DyckReachability y = Check.graph("D3");
        for (int kind = 1; kind <= 3; kind++) {
            long brackets = 10000L * (1010 + kind) + 1120 + kind + 3;
            check.due("a pair of kind " + kind, y.runScript(3, 10000 * brackets + 5022), NONE);
        }
    }

    /** "fails ... if the copy has 16 edges" */
    private static void addingToSixteen() {
        for (int m = 12; m <= 16; m++) {
            DyckReachability x = Check.graph("D2" + "01.".repeat(m));
            int want = m == 12 ? NONE : 16 - m;
            check.due("four more than " + m, x.runScript(4, 1010101010101010L), want);
        }
        DyckReachability x = Check.graph("D2" + "01.".repeat(16));
        check.due("removed and added", x.runScript(2, 20151010L), NONE);
        check.due("removed, added and added", x.runScript(3, 201510101010L), 2);
    }

    /** "2 0 x y: removes the edge with the number xy; fails if there is no such edge" */
    private static void removing() {
        for (int m = 0; m <= 16; m++) {
            DyckReachability x = Check.graph("D2" + "01.".repeat(m));
            for (int e = 0; e <= 17; e++) {
                one(x, 2000 + e, e < m);
                one(x, 2100 + e, false);
            }
            one(x, 2099, false);
            one(x, 2900, false);
        }
        DyckReachability y = Check.graph("D301.12.20.");
        check.due("the first goes", y.runScript(4, 2000301030213121L), 2);
        check.due("the last goes", y.runScript(4, 2002311130203120L), 2);
        check.due("the numbers behind it", y.runScript(3, 200020012001L), 2);
        check.due("all three", y.runScript(4, 2000200020004003L), NONE);
        check.due("one that was added", y.runScript(3, 100020032003L), 2);
    }

    /** "3 u v b: b is 0 or 1; succeeds if u and v are vertices and v is reachable from u ..." */
    private static void reaching() {
        for (int n = 1; n <= 8; n++) {
            DyckReachability x = Check.graph("D" + n);
            for (int v = 0; v <= 9; v++) {
                one(x, 3000 + 100 * v, n > 1 && v > 0 && v < n);
                one(x, 3000 + 10 * v, n > 1 && v > 0 && v < n);
                one(x, 3001 + 110 * v, v < n);
            }
        }
        DyckReachability y = Check.graph("D201.");
        for (int b = 0; b <= 9; b++) {
            one(y, 3010 + b, b == 1);
            one(y, 3100 + b, b == 0);
        }
    }

    /** "4 0 x y: succeeds if the pair count is exactly xy" */
    private static void countingPairs() {
        for (int n = 1; n <= 8; n++) {
            StringBuilder ring = new StringBuilder("D" + n);
            for (int v = 0; v < n; v++) {
                ring.append(v).append((v + 1) % n).append('.');
            }
            DyckReachability x = Check.graph(ring.toString());
            for (int count = 0; count <= 99; count++) {
                one(x, 4000 + count, count == n * n);
            }
            one(x, 4100 + n * n, false);
            one(x, 4900 + n * n, false);
        }
    }

    /** "5 u v d: succeeds if u and v are vertices, v is reachable from u and the distance is d" */
    private static void measuring() {
        String[] texts = {"D801.12.23.34.45.56.67.", "D800a01A12A23A34A45.56.67."};
        int[][] distances = {{0, 1, 2, 3, 4, 5, 6, 7}, {0, 2, 4, 6, 8, 9, 10, 11}};
        for (int i = 0; i < texts.length; i++) {
            DyckReachability x = Check.graph(texts[i]);
            for (int v = 0; v <= 7; v++) {
                check.due(texts[i] + " distance(0, " + v + ")", x.distance(0, v), distances[i][v]);
                for (int d = 0; d <= 9; d++) {
                    one(x, 5000 + 10 * v + d, d == distances[i][v]);
                }
            }
        }
        for (int n = 1; n <= 8; n++) {
            DyckReachability y = Check.graph("D" + n);
            for (int v = 0; v <= 9; v++) {
                one(y, 5000 + 110 * v, v < n);
                one(y, 5000 + 100 * v, v == 0);
                one(y, 5000 + 10 * v, v == 0);
                one(y, 5001 + 110 * v, false);
            }
        }
        DyckReachability z = Check.graph("D810.");
        one(z, 5101, true);
        one(z, 5081, false);
    }

    /** "Any other group fails." */
    private static void allOtherGroups() {
        for (int group = 0; group <= 9999; group++) {
            if (group < 1000 || group >= 6000) {
                one(Check.graph("D800."), group, false);
            }
        }
    }

    /** "the index, from 0, of the first command that fails, or NONE if all succeed" */
    private static void theFirstThatFails() {
        DyckReachability x = Check.graph("D2");
        for (int n = 1; n <= 4; n++) {
            for (int fails = 0; fails < 1 << n; fails++) {
                long script = 0;
                for (int i = 0; i < n; i++) {
                    script = 10000 * script + ((fails >> i & 1) == 1 ? 4003 : 4002);
                }
                int first = fails == 0 ? NONE : Integer.numberOfTrailingZeros(fails);
                check.due("runScript(" + n + ", " + script + ")", x.runScript(n, script), first);
            }
        }
    }

    /** "The commands run on a copy of the edges, one after another." */
    private static void onlyTheCopyChanges() {
        long[] scripts = {1010101010101010L, 2000200020002000L, 1010200040029999L, 1999L};
        for (long script : scripts) {
            DyckReachability x = Check.graph("D301a12A");
            x.setLabel(0, 1);
            x.save(1);
            x.observe(0, 2, 1);
            x.setSeed(11L);
            x.runScript(4, script);
            check.same("after " + script, State.of(x), "D301a12A, seed 11, labels 2 16,"
                    + " observations 1, before 0: 2 1 4, slot 0 empty, slot 1 D301a12A,"
                    + " text with a fault at -9 D301a12A and length 8");
        }
        DyckReachability y = Check.graph("D2");
        check.due("a script that adds", y.runScript(2, 10104003L), NONE);
        check.due("the next one starts anew", y.runScript(1, 4002L), NONE);
    }
}

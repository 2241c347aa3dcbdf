/** The sentences under OBSERVATIONS that name a boundary, one by one (promises 24 to 26). */
public final class LimitsOfObservationsTest {
    private static final Check check = new Check();
    private static final int BAD_VALUE = DyckReachability.BAD_VALUE;
    private static final int FULL = DyckReachability.FULL;
    private static final int ALL = 127;

    public static void main(String[] args) {
        numbersFromZeroToSeven();
        answersZeroAndOne();
        atMostSix();
        clearObservationsAtEachCount();
        allStoredObservations();
        exactlyWhenBIsOne();
        eachLabel();
        otherEdgesAsTheyAre();
        verticesAtTheTimeOfTheQuestion();
        loadingKeepsThem();
        check.end();
    }

    /** "from, to: a number from 0 to 7 (it need not be a vertex now)" */
    private static void numbersFromZeroToSeven() {
        for (int v = 0; v <= 7; v++) {
            DyckReachability x = new DyckReachability();
            check.due("observe(" + v + ", 0, 0)", x.observe(v, 0, 0), 1);
            check.due("observe(0, " + v + ", 0)", x.observe(0, v, 0), 2);
            check.due("observe(" + v + ", " + v + ", 1)", x.observe(v, v, 1), 3);
        }
        DyckReachability x = Check.graph("D8");
        for (int v : new int[] {-1, 8, Integer.MIN_VALUE, Integer.MAX_VALUE}) {
            check.due("observe(" + v + ", 0, 0)", x.observe(v, 0, 0), BAD_VALUE);
            check.due("observe(0, " + v + ", 0)", x.observe(0, v, 0), BAD_VALUE);
        }
        check.due("none is stored", x.clearObservations(), 0);
    }

    /** "b: 0 or 1" */
    private static void answersZeroAndOne() {
        DyckReachability x = new DyckReachability();
        for (int b : new int[] {-1, 2, Integer.MIN_VALUE, Integer.MAX_VALUE}) {
            check.due("observe(0, 0, " + b + ")", x.observe(0, 0, b), BAD_VALUE);
        }
        check.due("observe(0, 0, 0)", x.observe(0, 0, 0), 1);
        check.due("observe(0, 0, 1)", x.observe(0, 0, 1), 2);
    }

    /** "At most 6 observations are stored." */
    private static void atMostSix() {
        DyckReachability x = Check.graph("D201a");
        for (int i = 1; i <= 6; i++) {
            check.due("observe number " + i, x.observe(0, 0, 1), i);
        }
        check.due("a seventh", x.observe(0, 1, 1), FULL);
        check.due("an eighth", x.observe(0, 1, 0), FULL);
        check.due("a seventh from 8", x.observe(8, 1, 0), BAD_VALUE);
        check.due("a seventh to 8", x.observe(0, 8, 0), BAD_VALUE);
        check.due("a seventh with 2", x.observe(0, 1, 2), BAD_VALUE);
        check.due("they are not stored", x.possibleLabels(0), ALL);
        check.due("clearObservations", x.clearObservations(), 6);
        check.due("a first again", x.observe(0, 1, 1), 1);
    }

    /** "Removes all observations. Returns how many were stored." */
    private static void clearObservationsAtEachCount() {
        for (int count = 0; count <= 6; count++) {
            DyckReachability x = Check.graph("D201.");
            for (int i = 0; i < count; i++) {
                x.observe(1, 0, 1);
            }
            check.due("possibleLabels with " + count, x.possibleLabels(0), count == 0 ? ALL : 0);
            check.due("clearObservations of " + count, x.clearObservations(), count);
            check.due("possibleLabels then", x.possibleLabels(0), ALL);
            check.due("clearObservations then", x.clearObservations(), 0);
        }
    }

    /** "A label is possible for an edge if all stored observations hold": each of the six counts. */
    private static void allStoredObservations() {
        for (int which = 0; which < 6; which++) {
            DyckReachability x = Check.graph("D301.12.");
            for (int i = 0; i < 6; i++) {
                x.observe(0, i == which ? 1 : 0, 1);
            }
            check.due("number " + which + " asks for the empty label", x.possibleLabels(0), 1);
            check.due("it says nothing of the other edge", x.possibleLabels(1), ALL);
        }
        DyckReachability x = Check.graph("D301.12.");
        x.observe(0, 1, 1);
        x.observe(0, 1, 0);
        check.due("one against another", x.possibleLabels(0), 0);
        check.due("none at all", Check.graph("D301.12.").possibleLabels(1), ALL);
    }

    /** "with the true label, v is reachable from u exactly when b is 1" */
    private static void exactlyWhenBIsOne() {
        DyckReachability yes = Check.graph("D201c");
        yes.observe(0, 1, 1);
        check.due("reachable", yes.possibleLabels(0), 1);
        DyckReachability no = Check.graph("D201.");
        no.observe(0, 1, 0);
        check.due("not reachable", no.possibleLabels(0), ALL - 1);
        DyckReachability self = Check.graph("D201.");
        self.observe(1, 1, 0);
        check.due("a vertex that does not reach itself", self.possibleLabels(0), 0);
        DyckReachability always = Check.graph("D201.");
        always.observe(1, 1, 1);
        check.due("a vertex that reaches itself", always.possibleLabels(0), ALL);
    }

    /** "bit l, 0 to 6, is set if label l is possible" */
    private static void eachLabel() {
        for (int kind = 1; kind <= 3; kind++) {
            char opening = ".abc".charAt(kind);
            char closing = ".ABC".charAt(kind);
            DyckReachability x = Check.graph("D301" + opening + "12" + closing);
            x.observe(0, 2, 1);
            check.due("opening bracket " + kind, x.possibleLabels(0), 1 << kind);
            check.due("closing bracket " + kind, x.possibleLabels(1), 1 << kind + 3);
            x.clearObservations();
            x.observe(0, 2, 0);
            check.due("not opening bracket " + kind, x.possibleLabels(0), ALL - (1 << kind));
            check.due("not closing bracket " + kind, x.possibleLabels(1), ALL - (1 << kind + 3));
            check.same("the labels stay", State.graphOf(x), "D301" + opening + "12" + closing);
        }
    }

    /** "all other edges are as they are at the time of the question" */
    private static void otherEdgesAsTheyAre() {
        DyckReachability x = Check.graph("D301a12A");
        x.observe(0, 2, 1);
        check.due("at first", x.possibleLabels(0), 2);
        x.setLabel(1, 5);
        check.due("after setLabel", x.possibleLabels(0), 4);
        x.addEdge(0, 2, 0);
        check.due("after addEdge", x.possibleLabels(0), ALL);
        x.removeEdge(2);
        check.due("after removeEdge", x.possibleLabels(0), 4);
        x.undo();
        x.undo();
        x.undo();
        check.due("after undo", x.possibleLabels(0), 2);
        DyckReachability full = Check.graph("D2" + "01a".repeat(15) + "01.");
        full.observe(0, 1, 1);
        check.due("the last of 16", full.possibleLabels(15), 1);
        check.due("the first of 16", full.possibleLabels(0), ALL);
    }

    /** "An observation with a vertex that does not exist at that time counts as true." */
    private static void verticesAtTheTimeOfTheQuestion() {
        for (int n = 1; n <= 8; n++) {
            for (int v = 0; v <= 7; v++) {
                for (int b = 0; b <= 1; b++) {
                    DyckReachability from = Check.graph("D" + n + "00.");
                    DyckReachability to = Check.graph("D" + n + "00.");
                    from.observe(v, 0, b);
                    to.observe(0, v, b);
                    boolean holds = v >= n || (v == 0) == (b == 1);
                    String asked = "D" + n + " observed with " + v + " and " + b;
                    check.due(asked + ", from", from.possibleLabels(0), holds ? ALL : 0);
                    check.due(asked + ", to", to.possibleLabels(0), holds ? ALL : 0);
                }
            }
        }
    }

    /** "Loading a graph text keeps the observations." */
    private static void loadingKeepsThem() {
        DyckReachability x = Check.graph("D200.");
        x.observe(0, 2, 1);
        x.observe(2, 1, 0);
        check.due("2 is no vertex", x.possibleLabels(0), ALL);
        x.clearText();
        Check.write(x, "D302.");
        check.due("load", x.load(), 1);
        check.due("2 is a vertex", x.possibleLabels(0), 1);
        x.clearText();
        Check.write(x, "D200.");
        check.due("load", x.load(), 1);
        check.due("2 is no vertex again", x.possibleLabels(0), ALL);
        check.due("clearObservations", x.clearObservations(), 2);
    }
}

/**
 * The sentences under UNDO, and those of the save slots, that name a boundary, one by one (promises
 * 14, 31 and 32).
 */
public final class LimitsOfStatesTest {
    private static final Check check = new Check();
    private static final int NO_SUCH_INDEX = DyckReachability.NO_SUCH_INDEX;
    private static final int NOT_POSSIBLE = DyckReachability.NOT_POSSIBLE;

    public static void main(String[] args) {
        theLastFourteenActions();
        aFifteenthActionForgetsTheOldest();
        undoBetweenActions();
        eachKindOfAction();
        theEdgesAndNothingElse();
        refusedCallsAreNoActions();
        answeredCallsAreNoActions();
        undoOfNothing();
        slotsZeroAndOne();
        emptySlots();
        aSlotWithoutEdges();
        aSlotOfSixteenEdges();
        theSlotKeepsItsEdges();
        restoreForgetsAllStates();
        restoreIsNoAction();
        check.end();
    }

    /** The label of the only edge after so many actions. */
    private static int labelAfter(int actions) {
        return actions * actions % 7;
    }

    private static void act(DyckReachability x, int before) {
        x.setLabel(0, labelAfter(before + 1));
    }

    private static DyckReachability after(int actions) {
        DyckReachability x = Check.graph("D100.");
        for (int i = 0; i < actions; i++) {
            act(x, i);
        }
        return x;
    }

    /** "The object remembers the edges before each of the last 14 actions" */
    private static void theLastFourteenActions() {
        for (int actions = 0; actions <= 45; actions++) {
            DyckReachability x = after(actions);
            int remembered = Math.min(actions, 14);
            for (int back = 1; back <= remembered; back++) {
                String call = "undo " + back + " after " + actions + " actions";
                check.due(call, x.undo(), remembered - back);
                check.due(call + " restores the label", x.label(0), labelAfter(actions - back));
            }
            check.due("one undo more after " + actions, x.undo(), NOT_POSSIBLE);
            check.due("it leaves the label", x.label(0), labelAfter(actions - remembered));
        }
    }

    /** "when a fifteenth action happens, the oldest remembered state is forgotten" */
    private static void aFifteenthActionForgetsTheOldest() {
        DyckReachability fourteen = Check.graph("D2");
        DyckReachability fifteen = Check.graph("D2");
        for (int i = 0; i < 14; i++) {
            fourteen.addEdge(0, 1, 0);
            fifteen.addEdge(0, 1, 0);
        }
        fifteen.addEdge(0, 1, 0);
        for (int left = 13; left >= 0; left--) {
            check.due("undo after fourteen", fourteen.undo(), left);
            check.due("undo after fifteen", fifteen.undo(), left);
            check.due("edges after fourteen", fourteen.edgeCount(), left);
            check.due("edges after fifteen", fifteen.edgeCount(), left + 1);
        }
        check.due("no more after fourteen", fourteen.undo(), NOT_POSSIBLE);
        check.due("no more after fifteen", fifteen.undo(), NOT_POSSIBLE);
    }

    /** "undo restores the most recent remembered state and forgets it" */
    private static void undoBetweenActions() {
        for (int back = 1; back <= 14; back++) {
            for (int again = 0; again <= 15; again += 5) {
                DyckReachability x = after(20);
                for (int i = 0; i < back; i++) {
                    x.undo();
                }
                for (int i = 0; i < again; i++) {
                    act(x, 20 - back + i);
                }
                int remembered = Math.min(14, 14 - back + again);
                String then = "20 actions, " + back + " undos, " + again + " actions, ";
                for (int i = 1; i <= remembered; i++) {
                    check.due(then + "undo " + i, x.undo(), remembered - i);
                    check.due(then + "label", x.label(0), labelAfter(20 - back + again - i));
                }
                check.due(then + "no more", x.undo(), NOT_POSSIBLE);
            }
        }
    }

    /** "Each successful call of addEdge, removeEdge and setLabel is an action." */
    private static void eachKindOfAction() {
        String sixteen = "D3" + "01a12A20.00b".repeat(4);
        for (int e = 0; e < 16; e++) {
            DyckReachability x = Check.graph(sixteen);
            x.removeEdge(e);
            check.due("undo of removeEdge(" + e + ")", x.undo(), 0);
            check.same("the edges", State.graphOf(x), sixteen);
            x.setLabel(e, 6);
            check.due("undo of setLabel(" + e + ")", x.undo(), 0);
            check.same("the edges", State.graphOf(x), sixteen);
        }
        for (int m = 0; m < 16; m++) {
            String text = sixteen.substring(0, 2 + 3 * m);
            DyckReachability x = Check.graph(text);
            x.addEdge(2, 2, 3);
            check.due("undo of addEdge number " + m, x.undo(), 0);
            check.same("the edges", State.graphOf(x), text);
        }
        DyckReachability same = Check.graph("D100c");
        same.setLabel(0, 3);
        check.due("undo of a label set to itself", same.undo(), 0);
    }

    /** "The number of vertices, the text, the observations and the random seed are not part of" it */
    private static void theEdgesAndNothingElse() {
        DyckReachability x = Check.graph("D301a12A");
        x.removeEdge(0);
        x.append('2');
        x.append('0');
        x.append('.');
        x.observe(0, 2, 1);
        x.setSeed(-5L);
        x.save(1);
        check.due("undo", x.undo(), 0);
        check.same("the object then", State.of(x), "D301a12A, seed -5, labels 2 16, observations 1,"
                + " slot 0 empty, slot 1 D312A, text with a fault at -9 D301a12A20. and length 11");
    }

    /** "A call that returns an error changes nothing and is not an action." */
    private static void refusedCallsAreNoActions() {
        DyckReachability x = Check.graph("D2" + "01.".repeat(15));
        x.addEdge(1, 0, 5);
        x.addEdge(0, 1, 0);
        x.addEdge(2, 0, 0);
        x.addEdge(0, 2, 0);
        x.addEdge(0, 0, 7);
        x.removeEdge(16);
        x.removeEdge(-1);
        x.setLabel(16, 0);
        x.setLabel(-1, 0);
        x.setLabel(0, 7);
        x.setLabel(0, -1);
        x.append('0');
        x.load();
        x.restore(0);
        x.restore(2);
        check.same("the edges", State.graphOf(x), "D2" + "01.".repeat(15) + "10B");
        check.due("undo", x.undo(), 0);
        check.same("the edges before", State.graphOf(x), "D2" + "01.".repeat(15));
        check.due("no more", x.undo(), NOT_POSSIBLE);
    }

    private static void answeredCallsAreNoActions() {
        DyckReachability x = Check.graph("D301a12A");
        x.setLabel(0, 2);
        x.save(0);
        x.runScript(2, 20001110L);
        x.simulate(40);
        x.loss(0);
        x.criticalEdge();
        x.possibleLabels(0);
        x.share(0);
        x.reliability(0, 1, 5);
        x.observe(0, 0, 1);
        x.clearObservations();
        x.append('0');
        x.clearText();
        x.setSeed(7L);
        check.due("undo", x.undo(), 0);
        check.same("the edges", State.graphOf(x), "D301a12A");
        check.due("no more", x.undo(), NOT_POSSIBLE);
    }

    /** "NOT_POSSIBLE if none is remembered" */
    private static void undoOfNothing() {
        check.due("of a new object", new DyckReachability().undo(), NOT_POSSIBLE);
        DyckReachability x = Check.graph("D201.");
        check.due("after load", x.undo(), NOT_POSSIBLE);
        check.same("the edges", State.graphOf(x), "D201.");
        x.addEdge(1, 1, 1);
        check.due("after an action", x.undo(), 0);
        check.due("undo is no action", x.undo(), NOT_POSSIBLE);
        check.same("the edges then", State.graphOf(x), "D201.");
    }

    /** "slot: 0 or 1" */
    private static void slotsZeroAndOne() {
        DyckReachability x = Check.graph("D201a");
        for (int slot : new int[] {-1, 2, Integer.MIN_VALUE, Integer.MAX_VALUE}) {
            check.due("save(" + slot + ")", x.save(slot), NO_SUCH_INDEX);
            check.due("restore(" + slot + ")", x.restore(slot), NO_SUCH_INDEX);
        }
        check.due("restore(0)", x.restore(0), NOT_POSSIBLE);
        check.due("restore(1)", x.restore(1), NOT_POSSIBLE);
        check.due("save(0)", x.save(0), 1);
        check.due("restore(1) after save(0)", x.restore(1), NOT_POSSIBLE);
        x.addEdge(1, 0, 6);
        check.due("save(1)", x.save(1), 2);
        check.due("restore(0)", x.restore(0), 1);
        check.same("slot 0", State.graphOf(x), "D201a");
        check.due("restore(1)", x.restore(1), 2);
        check.same("slot 1", State.graphOf(x), "D201a10C");
    }

    /** "NOT_POSSIBLE if the slot is empty": then the edges and the states stay. */
    private static void emptySlots() {
        for (int slot = 0; slot < 2; slot++) {
            DyckReachability x = Check.graph("D201a");
            x.addEdge(1, 0, 6);
            x.save(1 - slot);
            check.due("restore(" + slot + ")", x.restore(slot), NOT_POSSIBLE);
            check.same("the edges", State.graphOf(x), "D201a10C");
            check.due("undo", x.undo(), 0);
        }
    }

    private static void aSlotWithoutEdges() {
        for (int slot = 0; slot < 2; slot++) {
            DyckReachability x = Check.graph("D2");
            check.due("save of no edges", x.save(slot), 0);
            x.addEdge(1, 0, 6);
            check.due("restore of no edges", x.restore(slot), 0);
            check.same("the edges", State.graphOf(x), "D2");
        }
    }

    private static void aSlotOfSixteenEdges() {
        String sixteen = "D3" + "01a12A20.00b".repeat(4);
        for (int slot = 0; slot < 2; slot++) {
            DyckReachability x = Check.graph(sixteen);
            check.due("save of 16 edges", x.save(slot), 16);
            for (int i = 0; i < 16; i++) {
                x.removeEdge(0);
            }
            check.due("restore of 16 edges", x.restore(slot), 16);
            check.same("the edges", State.graphOf(x), sixteen);
        }
    }

    /** "The slot keeps its edges." */
    private static void theSlotKeepsItsEdges() {
        DyckReachability x = Check.graph("D201a");
        x.save(0);
        x.save(1);
        x.setLabel(0, 3);
        x.save(1);
        for (int round = 0; round < 3; round++) {
            check.due("restore(0)", x.restore(0), 1);
            check.same("slot 0", State.graphOf(x), "D201a");
            x.addEdge(0, 0, 0);
            x.setLabel(0, 6);
            check.due("restore(1)", x.restore(1), 1);
            check.same("slot 1", State.graphOf(x), "D201c");
            x.removeEdge(0);
        }
        check.due("undo leaves the slots", x.undo(), 0);
        check.due("restore(0)", x.restore(0), 1);
        check.same("slot 0", State.graphOf(x), "D201a");
    }

    /** "and forgets all remembered states" */
    private static void restoreForgetsAllStates() {
        for (int actions = 0; actions <= 15; actions++) {
            DyckReachability x = after(0);
            x.save(0);
            for (int i = 0; i < actions; i++) {
                act(x, i);
            }
            x.save(1);
            check.due("restore(1)", x.restore(1), 1);
            check.due("undo after " + actions + " actions and restore", x.undo(), NOT_POSSIBLE);
            check.due("the label", x.label(0), labelAfter(actions));
            check.due("restore(0)", x.restore(0), 1);
            check.due("the label", x.label(0), labelAfter(0));
        }
    }

    /** "This is not an action." */
    private static void restoreIsNoAction() {
        DyckReachability x = Check.graph("D201a");
        x.save(0);
        x.setLabel(0, 2);
        check.due("restore(0)", x.restore(0), 1);
        check.due("undo", x.undo(), NOT_POSSIBLE);
        check.same("the edges", State.graphOf(x), "D201a");
        x.setLabel(0, 3);
        check.due("undo of the action behind it", x.undo(), 0);
        check.same("the edges", State.graphOf(x), "D201a");
    }
}

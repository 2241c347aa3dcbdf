/**
 * The sentences under GRAPH TEXT that name a boundary, one by one: the buffer, each place of a
 * text, the number of edges, texts that are not complete (promises 2 to 5).
 */
public final class LimitsOfTextTest {
    private static final Check check = new Check();
    private static final int BAD_VALUE = DyckReachability.BAD_VALUE;
    private static final int NOT_POSSIBLE = DyckReachability.NOT_POSSIBLE;
    private static final int FULL = DyckReachability.FULL;
    private static final int NONE = DyckReachability.NONE;

    public static void main(String[] args) {
        characterCodes();
        sixtyCharacters();
        clearTextAtEachLength();
        everyCharacterAtEveryPlace();
        zeroToSixteenEdges();
        aSeventeenthEdge();
        textsThatAreNotComplete();
        theFirstOfSeveralFaults();
        whatLoadForgets();
        whatLoadKeeps();
        check.end();
    }

    /** "c: character code, 0 to 255" */
    private static void characterCodes() {
        DyckReachability x = new DyckReachability();
        for (int c : new int[] {-1, 256, Integer.MIN_VALUE, Integer.MAX_VALUE, 'D' - 256, 'D' + 256}) {
            check.due("append(" + c + ")", x.append(c), BAD_VALUE);
            check.due("errorPosition after it", x.errorPosition(), 0);
        }
        check.due("clearText after them", x.clearText(), 0);
        for (int c = 0; c <= 255; c++) {
            check.due("append(" + c + ")", x.append(c), c % 60 + 1);
            if (c % 60 == 59) {
                check.due("clearText", x.clearText(), 60);
            }
        }
    }

    /** "a text buffer of at most 60 characters"; "FULL if the text already has 60 characters" */
    private static void sixtyCharacters() {
        DyckReachability x = new DyckReachability();
        Check.write(x, "D8" + "77.".repeat(16) + "123456789");
        check.due("the sixtieth", x.append('0'), 60);
        check.due("the sixty-first", x.append('0'), FULL);
        check.due("the sixty-first once more", x.append('0'), FULL);
        check.due("a wrong code then", x.append(-1), BAD_VALUE);
        check.due("another wrong code then", x.append(256), BAD_VALUE);
        check.due("errorPosition", x.errorPosition(), 50);
        check.due("load", x.load(), NOT_POSSIBLE);
        check.due("clearText", x.clearText(), 60);
        check.due("append then", x.append('D'), 1);
        check.due("append then", x.append('1'), 2);
        check.due("errorPosition then", x.errorPosition(), NONE);
    }

    /** "Returns the previous length of the text." */
    private static void clearTextAtEachLength() {
        for (int length = 0; length <= 60; length++) {
            DyckReachability x = Check.graph("D2");
            x.clearText();
            Check.write(x, "D".repeat(length));
            check.due("clearText of " + length, x.clearText(), length);
            check.due("clearText once more", x.clearText(), 0);
            check.due("errorPosition of the empty text", x.errorPosition(), 0);
            check.due("load of the empty text", x.load(), NOT_POSSIBLE);
            check.due("the graph stays", x.vertexCount(), 2);
        }
    }

    /** Asks for the fault of a start that has none, with each character behind it. */
    private static void places(String start, String fitting, boolean thenComplete) {
        for (char c = 0; c <= 255; c++) {
            DyckReachability x = new DyckReachability();
            Check.write(x, start + c);
            int behind = start.length() + 1;
            int want = fitting.indexOf(c) < 0 ? start.length() : thenComplete ? NONE : behind;
            check.due("errorPosition of " + start + " and " + (int) c, x.errorPosition(), want);
        }
    }

    /** "the letter D, the number of vertices (one digit, 1 to 8) and then 0 to 16 edges" */
    private static void everyCharacterAtEveryPlace() {
        places("", "D", false);
        places("D", "12345678", true);
        for (int n = 1; n <= 8; n++) {
            String vertices = "01234567".substring(0, n);
            String last = String.valueOf(n - 1);
            places("D" + n, vertices, false);
            places("D" + n + last, vertices, false);
            places("D" + n + last + last, ".abcABC", true);
            places("D" + n + "00C", vertices, false);
            places("D" + n + "00." + last, vertices, false);
            places("D" + n + ("00a" + last + "0B").repeat(7) + "00.0" + last, ".abcABC", true);
            places("D" + n + ("0" + last + "a").repeat(15), vertices, false);
            places("D" + n + ("0" + last + "a").repeat(16), "", false);
        }
    }

    private static void zeroToSixteenEdges() {
        for (int m = 0; m <= 16; m++) {
            String text = "D8" + "07.12a23b34c45A56B67C70.".repeat(2).substring(0, 3 * m);
            DyckReachability x = new DyckReachability();
            Check.write(x, text);
            check.due("errorPosition of " + text, x.errorPosition(), NONE);
            check.due("load of " + text, x.load(), m);
            check.due("edgeCount of " + text, x.edgeCount(), m);
            check.same("the graph of " + text, State.graphOf(x), text);
        }
    }

    /** "If a seventeenth edge begins, its first character is an error." */
    private static void aSeventeenthEdge() {
        String sixteen = "D2" + "01.".repeat(16);
        for (String more : new String[] {"0", "01", "01.", "01.10.", "9", "x"}) {
            DyckReachability x = Check.graph("D3");
            x.clearText();
            Check.write(x, sixteen + more);
            check.due("errorPosition with " + more, x.errorPosition(), 50);
            check.due("load with " + more, x.load(), NOT_POSSIBLE);
            check.due("vertexCount with " + more, x.vertexCount(), 3);
            check.due("edgeCount with " + more, x.edgeCount(), 0);
        }
    }

    /** "not a complete graph text: the error position is the length of the text" */
    private static void textsThatAreNotComplete() {
        String whole = "D8" + "07.12a23b34c45A56B67C70.".repeat(2);
        for (int length = 0; length <= 50; length++) {
            DyckReachability x = new DyckReachability();
            Check.write(x, whole.substring(0, length));
            boolean complete = length >= 2 && length % 3 == 2;
            check.due("errorPosition at " + length, x.errorPosition(), complete ? NONE : length);
            check.due("load at " + length, x.load(), complete ? (length - 2) / 3 : NOT_POSSIBLE);
            check.due("vertexCount at " + length, x.vertexCount(), complete ? 8 : 1);
            check.due("clearText at " + length, x.clearText(), length);
        }
    }

    /** "the index of the first character such that no graph text starts with the text up to" it */
    private static void theFirstOfSeveralFaults() {
        String whole = "D8" + "77C".repeat(16);
        for (int at = 0; at < 50; at++) {
            DyckReachability x = new DyckReachability();
            Check.write(x, whole.substring(0, at) + "x".repeat(60 - at));
            check.due("errorPosition with faults from " + at, x.errorPosition(), at);
            DyckReachability y = new DyckReachability();
            Check.write(y, whole.substring(0, at) + "x" + whole.substring(at + 1));
            check.due("errorPosition with a fault at " + at, y.errorPosition(), at);
            check.due("load with a fault at " + at, y.load(), NOT_POSSIBLE);
        }
    }

    /** "Forgets all remembered states and empties both save slots." */
    private static void whatLoadForgets() {
        for (int actions = 0; actions <= 15; actions++) {
            DyckReachability x = Check.graph("D301a");
            x.save(0);
            for (int i = 0; i < actions; i++) {
                x.setLabel(0, i % 7);
            }
            x.save(1);
            check.due("load", x.load(), 1);
            check.same("the graph of the text", State.graphOf(x), "D301a");
            check.due("undo after " + actions + " actions and load", x.undo(), NOT_POSSIBLE);
            check.due("restore(0)", x.restore(0), NOT_POSSIBLE);
            check.due("restore(1)", x.restore(1), NOT_POSSIBLE);
            x.addEdge(2, 2, 2);
            check.due("undo after one more action", x.undo(), 0);
        }
    }

    /** "Keeps the text, the observations and the seed." */
    private static void whatLoadKeeps() {
        DyckReachability x = new DyckReachability();
        for (int i = 0; i < 6; i++) {
            x.observe(0, 2, 1);
        }
        x.setSeed(Long.MIN_VALUE);
        Check.write(x, "D301a12A");
        check.due("load", x.load(), 2);
        check.due("load of the same text again", x.load(), 2);
        check.same("the object then", State.of(x), "D301a12A, seed -9223372036854775808,"
                + " labels 2 16, observations 6, slot 0 empty, slot 1 empty,"
                + " text with a fault at -9 D301a12A and length 8");
    }
}

/** Counts the answers of a test that are not the ones that are due. */
final class Check {
    private static final int SHOWN = 40;
    private int wrong = 0;
    private int asked = 0;

    void due(String call, long got, long want) {
        asked++;
        if (got != want) {
            wrong++;
            if (wrong <= SHOWN) {
                System.out.println(call + " answered " + got + ", due is " + want);
            }
        }
    }

    void same(String what, String got, String want) {
        asked++;
        if (!got.equals(want)) {
            wrong++;
            if (wrong <= SHOWN) {
                System.out.println(what + ":\n  it is   " + got + "\n  due is  " + want);
            }
        }
    }

    void holds(String what, boolean really) {
        due(what, really ? 1 : 0, 1);
    }

    boolean anyWrong() {
        return wrong != 0;
    }

    void end() {
        System.out.println(asked + " answers, " + wrong + " not as due");
        if (wrong != 0) {
            System.exit(1);
        }
    }

    static void write(DyckReachability x, String text) {
        for (char c : text.toCharArray()) {
            x.append(c);
        }
    }

    /** A new object that has loaded the graph text. */
    static DyckReachability graph(String text) {
        DyckReachability x = new DyckReachability();
        write(x, text);
        if (x.load() < 0) {
            System.out.println("the test's own text is not a graph text: " + text);
            System.exit(1);
        }
        return x;
    }
}

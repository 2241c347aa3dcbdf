/**
 * All that can be read of an object, as a text. Reading uses the object up: it takes back every
 * action, restores both slots and loads the text. It makes fewer than 300 calls.
 */
final class State {
    private final DyckReachability x;
    private final StringBuilder read = new StringBuilder();

    private State(DyckReachability x) {
        this.x = x;
    }

    static String of(DyckReachability x) {
        return new State(x).whole();
    }

    /** The edges alone, such as "D301a12A"; this changes nothing. */
    static String graphOf(DyckReachability x) {
        StringBuilder text = new StringBuilder("D").append(x.vertexCount());
        int size = x.edgeCount();
        for (int e = 0; e < size; e++) {
            int label = x.label(e);
            text.append(x.source(e)).append(x.target(e));
            text.append(label < 0 || label > 6 ? '?' : ".abcABC".charAt(label));
        }
        return text.toString();
    }

    private String whole() {
        read.append(graphOf(x)).append(", seed ").append(x.setSeed(0L)).append(", labels");
        int size = x.edgeCount();
        for (int e = 0; e < size; e++) {
            read.append(' ').append(x.possibleLabels(e));
        }
        read.append(", observations ").append(x.clearObservations());
        readPast();
        for (int slot = 0; slot < 2; slot++) {
            read.append(", slot ").append(slot);
            read.append(x.restore(slot) < 0 ? " empty" : " " + graphOf(x));
        }
        read.append(", text with a fault at ").append(x.errorPosition());
        if (x.load() >= 0) {
            read.append(' ').append(graphOf(x));
        }
        return read.append(" and length ").append(x.clearText()).toString();
    }

    private void readPast() {
        for (int left = x.undo(); left >= 0; left = x.undo()) {
            int size = x.edgeCount();
            read.append(", before ").append(left).append(": ").append(size);
            read.append(' ').append(x.label(0)).append(' ').append(x.label(size - 1));
        }
    }
}

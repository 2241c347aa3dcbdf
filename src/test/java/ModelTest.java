import java.util.Random;

/** All promises: runs of 512 drawn calls, each answer compared with that of the model. */
public final class ModelTest {
    private static final Check check = new Check();
    private static final int CALLS = 512;
    private static final int[] WILD = {
        Integer.MIN_VALUE, -1000, -2, -1, 7, 8, 9, 15, 16, 17, 41, 255, 256, Integer.MAX_VALUE
    };

    private final Random random;
    private final DyckReachability x = new DyckReachability();
    private final Model model = new Model();
    private final String run;
    private final int mostEdges;
    private int calls = 0;

    private ModelTest(long seed) {
        random = new Random(seed);
        run = "run " + seed + ", call ";
        mostEdges = seed % 2 == 0 ? 16 : 8;
    }

    public static void main(String[] args) {
        int runs = args.length > 0 ? Integer.parseInt(args[0]) : 300;
        long first = args.length > 1 ? Long.parseLong(args[1]) : 1;
        for (long seed = first; seed < first + runs && !check.anyWrong(); seed++) {
            new ModelTest(seed).go();
        }
        check.end();
    }

    private void due(String call, long got, long want) {
        calls++;
        check.due(run + calls + ": " + call, got, want);
    }

    private void go() {
        if (random.nextInt(8) != 0) {
            writeAndLoad();
        }
        while (calls < CALLS && !check.anyWrong()) {
            int kind = random.nextInt(100);
            if (kind < 2) {
                writeAndLoad();
            } else if (kind < 8) {
                textCall();
            } else if (kind < 30) {
                action();
            } else if (kind < 65) {
                pathQuestion();
            } else if (kind < 75) {
                script();
            } else if (kind < 85) {
                observation();
            } else if (kind < 93) {
                chance();
            } else {
                stateCall();
            }
        }
    }

    private int wildOr(int usual) {
        return random.nextInt(25) == 0 ? WILD[random.nextInt(WILD.length)] : usual;
    }

    private int vertex() {
        return wildOr(random.nextInt(model.vertexCount()));
    }

    private int edge() {
        return wildOr(random.nextInt(model.edgeCount() + 1));
    }

    private int label() {
        return wildOr(random.nextInt(7));
    }

    private void append(int c) {
        due("append(" + c + ")", x.append(c), model.append(c));
    }

    private void clearText() {
        due("clearText()", x.clearText(), model.clearText());
    }

    private void load() {
        due("errorPosition()", x.errorPosition(), model.errorPosition());
        due("load()", x.load(), model.load());
    }

    /** Now and then with a sign that is wrong, or with a seventeenth edge. */
    private void writeAndLoad() {
        clearText();
        int n = random.nextInt(3) == 0 ? 1 + random.nextInt(8) : 5 + random.nextInt(4);
        int m = random.nextInt(mostEdges + 1);
        if (random.nextInt(10) == 0) {
            m = 17;
        }
        StringBuilder text = new StringBuilder("D").append(n);
        for (int e = 0; e < m; e++) {
            text.append(random.nextInt(n)).append(random.nextInt(n));
            text.append(".abcABC".charAt(random.nextInt(7)));
        }
        if (random.nextInt(10) == 0) {
            text.setCharAt(random.nextInt(text.length()), "D.aC0789x/:".charAt(random.nextInt(11)));
        }
        for (int i = 0; i < text.length(); i++) {
            append(text.charAt(i));
        }
        load();
    }

    private void textCall() {
        switch (random.nextInt(4)) {
            case 0 -> append(wildOr("D0123456789.abcABC".charAt(random.nextInt(18))));
            case 1 -> append(wildOr(random.nextInt(256)));
            case 2 -> due("errorPosition()", x.errorPosition(), model.errorPosition());
            default -> {
                if (random.nextInt(4) == 0) {
                    load();
                } else {
                    append('0' + random.nextInt(model.vertexCount()));
                }
            }
        }
    }

    private void action() {
        int e = edge();
        int l = label();
        switch (random.nextInt(8)) {
            case 0, 1, 2 -> {
                int u = vertex();
                int v = vertex();
                if (model.edgeCount() < mostEdges || random.nextInt(6) == 0) {
                    due("addEdge(" + u + ", " + v + ", " + l + ")",
                            x.addEdge(u, v, l), model.addEdge(u, v, l));
                }
            }
            case 3, 4 -> due("removeEdge(" + e + ")", x.removeEdge(e), model.removeEdge(e));
            case 5, 6 -> due("setLabel(" + e + ", " + l + ")", x.setLabel(e, l), model.setLabel(e, l));
            default -> due("undo()", x.undo(), model.undo());
        }
    }

    private void pathQuestion() {
        int u = vertex();
        int v = vertex();
        int e = edge();
        switch (random.nextInt(8)) {
            case 0 -> due("reachableFrom(" + u + ")", x.reachableFrom(u), model.reachableFrom(u));
            case 1 -> due("pairCount()", x.pairCount(), model.pairCount());
            case 2 -> due("distance(" + u + ", " + v + ")", x.distance(u, v), model.distance(u, v));
            case 3, 4 -> witnessQuestion(u, v);
            case 5 -> due("depth(" + u + ", " + v + ")", x.depth(u, v), model.depth(u, v));
            case 6 -> due("loss(" + e + ")", x.loss(e), model.loss(e));
            default -> {
                due("criticalEdge()", x.criticalEdge(), model.criticalEdge());
                due("representative(" + u + ")", x.representative(u), model.representative(u));
            }
        }
    }

    private void witnessQuestion(int u, int v) {
        int i = wildOr(random.nextInt(Math.max(1, model.distance(u, v)) + 1));
        due("witnessEdge(" + u + ", " + v + ", " + i + ")",
                x.witnessEdge(u, v, i), model.witnessEdge(u, v, i));
    }

    private void script() {
        int n = wildOr(1 + random.nextInt(4));
        long script = 0;
        for (int i = 0; i < Math.min(Math.max(n, 1), 4); i++) {
            script = 10000 * script + group();
        }
        if (random.nextInt(20) == 0) {
            script = random.nextLong() >> random.nextInt(60);
        }
        due("runScript(" + n + ", " + script + ")",
                x.runScript(n, script), model.runScript(n, script));
    }

    private int group() {
        int n = model.vertexCount();
        int u = random.nextInt(n);
        int v = random.nextInt(n);
        int b = random.nextInt(2);
        switch (random.nextInt(12)) {
            case 0, 1, 2:
                return 1000 + 100 * u + 10 * v + random.nextInt(7);
            case 3, 4:
                return 2000 + random.nextInt(model.edgeCount() + 1);
            case 5, 6:
                return 3000 + 100 * u + 10 * v + b;
            case 7:
                return 4000 + Math.min(64, model.pairCount() + random.nextInt(3));
            case 8, 9:
                return 5000 + 100 * u + 10 * v + Math.max(0, Math.min(9, model.distance(u, v)));
            default:
                return random.nextInt(10000);
        }
    }

    private void observation() {
        switch (random.nextInt(10)) {
            case 0 -> due("clearObservations()", x.clearObservations(), model.clearObservations());
            case 1, 2, 3 -> {
                int u = wildOr(random.nextInt(4) == 0 ? random.nextInt(8) : vertex());
                int v = wildOr(random.nextInt(4) == 0 ? random.nextInt(8) : vertex());
                int b = model.isVertex(u) && model.isVertex(v) && random.nextInt(4) != 0
                        ? model.reachableFrom(u) >> v & 1
                        : wildOr(random.nextInt(2));
                due("observe(" + u + ", " + v + ", " + b + ")",
                        x.observe(u, v, b), model.observe(u, v, b));
            }
            default -> {
                int e = edge();
                due("possibleLabels(" + e + ")", x.possibleLabels(e), model.possibleLabels(e));
            }
        }
    }

    private void chance() {
        if (model.edgeCount() == 8 && random.nextInt(4) != 0) {
            return;
        }
        int e = edge();
        int u = vertex();
        int v = vertex();
        int t = wildOr(random.nextInt(11));
        if (random.nextInt(3) == 0) {
            due("share(" + e + ")", x.share(e), model.share(e));
        } else {
            due("reliability(" + u + ", " + v + ", " + t + ")",
                    x.reliability(u, v, t), model.reliability(u, v, t));
        }
    }

    private void stateCall() {
        int e = edge();
        int slot = wildOr(random.nextInt(2));
        switch (random.nextInt(9)) {
            case 0 -> due("vertexCount()", x.vertexCount(), model.vertexCount());
            case 1 -> due("edgeCount()", x.edgeCount(), model.edgeCount());
            case 2 -> due("source(" + e + ")", x.source(e), model.source(e));
            case 3 -> due("target(" + e + ")", x.target(e), model.target(e));
            case 4 -> due("label(" + e + ")", x.label(e), model.label(e));
            case 5 -> {
                int m = wildOr(1 + random.nextInt(40));
                due("simulate(" + m + ")", x.simulate(m), model.simulate(m));
            }
            case 6 -> {
                long seed = random.nextLong();
                due("setSeed(" + seed + "L)", x.setSeed(seed), model.setSeed(seed));
            }
            case 7 -> due("save(" + slot + ")", x.save(slot), model.save(slot));
            default -> due("restore(" + slot + ")", x.restore(slot), model.restore(slot));
        }
    }
}

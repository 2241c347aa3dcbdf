import java.io.IOException;
import java.lang.reflect.Constructor;
import java.lang.reflect.Field;
import java.lang.reflect.Method;
import java.lang.reflect.Modifier;
import java.nio.file.Files;
import java.nio.file.Path;
import java.util.HashSet;
import java.util.Set;
import java.util.TreeSet;
import java.util.regex.Matcher;
import java.util.regex.Pattern;

/** The public face of the document, and the rules of LANGUAGE.md that a test can see. */
public final class FaceTest {
    private static final Check check = new Check();
    private static final String SOURCE = "src/main/java/DyckReachability.java";
    private static final Set<Class<?>> STATIC_TYPES = Set.of(int.class, long.class, boolean.class,
            char.class, String.class, int[].class, long[].class, char[].class, byte[].class);
    private static final String[] FACE = {
        "int append(int)", "int clearText()", "int errorPosition()", "int load()",
        "int vertexCount()", "int edgeCount()", "int source(int)", "int target(int)",
        "int label(int)", "int addEdge(int,int,int)", "int removeEdge(int)",
        "int setLabel(int,int)", "int undo()", "int reachableFrom(int)", "int pairCount()",
        "int distance(int,int)", "int witnessEdge(int,int,int)", "int depth(int,int)",
        "int loss(int)", "int criticalEdge()", "int representative(int)",
        "int runScript(int,long)", "int observe(int,int,int)", "int clearObservations()",
        "int possibleLabels(int)", "int share(int)", "int reliability(int,int,int)",
        "long setSeed(long)", "int simulate(int)", "int save(int)", "int restore(int)"
    };

    public static void main(String[] args) throws IOException {
        methods();
        fields();
        nestedClasses();
        words();
        shortMethods();
        check.end();
    }

    private static String signature(Method m) {
        StringBuilder s = new StringBuilder(m.getReturnType() + " " + m.getName() + "(");
        for (Class<?> type : m.getParameterTypes()) {
            s.append(s.charAt(s.length() - 1) == '(' ? "" : ",").append(type);
        }
        return s.append(')').toString();
    }

    private static Set<String> namesOfTheFace() {
        Set<String> names = new HashSet<>();
        for (String s : FACE) {
            names.add(s.substring(s.indexOf(' ') + 1, s.indexOf('(')));
        }
        return names;
    }

    private static void methods() {
        Set<String> want = new TreeSet<>(Set.of(FACE));
        Set<String> names = namesOfTheFace();
        Set<String> got = new TreeSet<>();
        for (Method m : DyckReachability.class.getDeclaredMethods()) {
            if (Modifier.isPrivate(m.getModifiers())) {
                check.holds("private " + m.getName() + " has its own name",
                        !names.contains(m.getName()));
            } else {
                got.add(signature(m));
                check.due(m.getName() + " is public", m.getModifiers(), Modifier.PUBLIC);
            }
        }
        check.holds("the methods are " + want + ", not " + got, want.equals(got));
        Constructor<?>[] constructors = DyckReachability.class.getDeclaredConstructors();
        check.due("constructors", constructors.length, 1);
        check.due("parameters of the constructor", constructors[0].getParameterCount(), 0);
        check.holds("public final class", DyckReachability.class.getModifiers()
                == (Modifier.PUBLIC | Modifier.FINAL));
    }

    private static void fields() {
        check.due("NO_SUCH_INDEX", DyckReachability.NO_SUCH_INDEX, -1);
        check.due("BAD_VALUE", DyckReachability.BAD_VALUE, -2);
        check.due("NOT_POSSIBLE", DyckReachability.NOT_POSSIBLE, -3);
        check.due("FULL", DyckReachability.FULL, -4);
        check.due("NONE", DyckReachability.NONE, -9);
        Set<String> open = new TreeSet<>();
        for (Field f : DyckReachability.class.getDeclaredFields()) {
            if (!Modifier.isPrivate(f.getModifiers())) {
                open.add(f.getName());
            }
        }
        check.holds("fields that are not private: " + open, open.equals(
                Set.of("NO_SUCH_INDEX", "BAD_VALUE", "NOT_POSSIBLE", "FULL", "NONE")));
        staticFieldsAreFinal(DyckReachability.class);
    }

    private static void staticFieldsAreFinal(Class<?> c) {
        int own = 0;
        for (Field f : c.getDeclaredFields()) {
            boolean isStatic = Modifier.isStatic(f.getModifiers());
            check.holds(c + " " + f.getName() + " is final if it is static",
                    !isStatic || Modifier.isFinal(f.getModifiers()));
            check.holds(c + " " + f.getName() + " may be static",
                    !isStatic || STATIC_TYPES.contains(f.getType()));
            own += isStatic ? 0 : 1;
        }
        check.holds(c + " has at most 20 fields", own <= 20);
    }

    private static void nestedClasses() {
        Class<?>[] inside = DyckReachability.class.getDeclaredClasses();
        check.holds("at most 12 classes", inside.length < 12);
        for (Class<?> c : inside) {
            check.holds(c + " is static", Modifier.isStatic(c.getModifiers()));
            check.holds(c + " is not public", !Modifier.isPublic(c.getModifiers()));
            check.holds(c + " is not protected", !Modifier.isProtected(c.getModifiers()));
            staticFieldsAreFinal(c);
            for (Method m : c.getDeclaredMethods()) {
                check.holds(m + " has its own name", !namesOfTheFace().contains(m.getName()));
                check.holds(m + " has at most 7 parameters", m.getParameterCount() <= 7);
            }
        }
    }

    private static void words() throws IOException {
        String source = Files.readString(Path.of(SOURCE))
                .replaceAll("(?s)/\\*.*?\\*/", " ").replaceAll("//[^\n]*", " ");
        Pattern forbidden = Pattern.compile("\\b(throw|throws|try|catch|synchronized|assert|import"
                + "|package|Object|System\\.(?!arraycopy)\\w+|\\w+Exact|random|Thread)\\b|->|::|@");
        Matcher m = forbidden.matcher(source);
        while (m.find()) {
            check.holds("not allowed: " + m.group(), false);
        }
        Matcher loops = Pattern.compile("\\bwhile\\b|for \\(;").matcher(source);
        check.holds("every loop is counted", !loops.find());
    }

    private static void shortMethods() throws IOException {
        String header = "";
        String end = "";
        int length = 0;
        int methods = 0;
        for (String line : Files.readAllLines(Path.of(SOURCE))) {
            length++;
            if (line.matches(" {4}( {4})?(?!if|for|switch)[\\w\\[\\]][^=;]*\\) \\{")) {
                header = line.trim();
                end = line.substring(0, line.indexOf(header)) + "}";
                length = 1;
            } else if (line.equals(end)) {
                check.holds(header + " has " + length + " lines", length <= 60);
                methods++;
                end = "";
            }
        }
        check.holds("methods were read: " + methods, methods > FACE.length);
    }
}

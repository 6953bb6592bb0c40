import java.io.IOException;
import java.lang.reflect.InvocationTargetException;
import java.lang.reflect.Method;
import java.lang.reflect.Modifier;
import java.nio.charset.StandardCharsets;
import java.nio.file.Files;
import java.nio.file.Path;
import java.util.ArrayList;
import java.util.Comparator;
import java.util.List;
import java.util.Random;
import java.util.stream.Stream;

/**
 * The rules of LANGUAGE.md, each quoted: the class has nothing that Language finds, and Language finds what breaks the
 * rule in a small source. What no source shows (that no call throws by itself, and that the same calls answer the same)
 * is tried with drawn numbers.
 */
public final class LanguageTest {

    private static final String SMALL = """
            import java.util.NoSuchElementException;

            public final class YearRope {
                public static final int NONE = -1;
                private int[] row;

                public YearRope() {
                    row = new int[8];
                }

                public int fault() {
                    return NONE;
                }

                //

                private static final class Part {
                    int part;
                }
            }
            """;

    private static final int[] EXTREMES = {Integer.MIN_VALUE, -60, -1, 0, 1, 2, 3, 4, 5, 6, 7, 8, 9, 10, 13, 14, 20, 40, 41,
        50, 51, 60, 99, 100, 200, 201, 400, 401, 999, 1000, 9999, 10000, 65536, Integer.MAX_VALUE};
    private static final int OBJECTS = 40;
    private static final int CALLS = 512;

    private final Check check = new Check("LanguageTest");
    private final List<String> findings;

    private LanguageTest() throws IOException {
        findings = found(Files.readString(Path.of("src/main/java/YearRope.java"), StandardCharsets.ISO_8859_1));
    }

    public static void main(String[] args) throws IOException {
        LanguageTest test = new LanguageTest();
        test.file();
        test.face();
        test.classesInside();
        test.types();
        test.library();
        test.staticFields();
        test.exceptions();
        test.throwsByItself();
        test.recursion();
        test.loops();
        test.statements();
        test.sizes();
        test.objects();
        test.sameAnswers();
        test.check.end();
    }

    private static List<String> found(String source) throws IOException {
        return new Language(source).findings();
    }

    private void keeps(int rule) {
        List<String> own = findings.stream().filter(f -> f.startsWith("rule " + rule + ",")).toList();
        check.due("what the class breaks of rule " + rule, List.of(), () -> own);
    }

    private void breaks(int rule, String member) throws IOException {
        breaksAs(rule, SMALL.replace("//", member), member);
    }

    private void breaksInPart(int rule, String member) throws IOException {
        breaksAs(rule, SMALL.replace("int part;", member), member);
    }

    private void breaksAs(int rule, String source, String what) throws IOException {
        List<String> all = found(source);
        check.due("rule " + rule + " finds " + what + " in " + all, true,
                () -> all.stream().anyMatch(f -> f.startsWith("rule " + rule + ",")));
    }

    private void file() throws IOException {
        check.rule("The program is one file, src/main/java/YearRope.java, without a package line,");
        try (Stream<Path> files = Files.walk(Path.of("src/main"))) {
            List<String> names = files.filter(Files::isRegularFile).map(f -> f.getFileName().toString()).toList();
            check.due("the files", List.of("YearRope.java"), () -> names);
        }
        keeps(0);
        breaksAs(0, "package years;\n" + SMALL, "a package line");
        breaksAs(0, SMALL + "final class Other {\n}\n", "a second class");
        List<String> none = found(SMALL);
        check.due("what the small source breaks", List.of(), () -> none);
    }

    private void face() throws IOException {
        check.rule("1. The face: the class of the document, public and final, with the public constructor, methods and "
                + "constants of the document and no other public, protected or package-visible member, but for the "
                + "classes inside it, which are private or package-visible and static. No private method bears the name "
                + "of a public one.");
        keeps(1);
        breaks(1, "int shown;");
        breaks(1, "int asked() { return 0; }");
        breaks(1, "protected int asked() { return 0; }");
        breaks(1, "private int fault(int n) { return n; }");
        breaksInPart(1, "private int fault() { return 0; }");
        breaksAs(1, SMALL.replace("public final class", "public class"), "a class that is not final");
        breaksAs(1, SMALL.replace("public final class", "final class"), "a class that is not public");
    }

    private void classesInside() throws IOException {
        check.rule("2. Classes inside: static nested classes,");
        keeps(2);
        breaks(2, "public static final class Other { }");
        breaks(2, "private final class Other { }");
        check.rule("no local class that captures a variable, no lambda, no method reference.");
        keeps(2);
        breaks(2, "private void go(int n) { class Other { int n() { return n; } } }");
        breaks(2, "private Runnable go() { return () -> { }; }");
        breaks(2, "private Runnable go() { return this::fault; }");
    }

    private void types() throws IOException {
        check.rule("3. Types: int, long, short, byte, char, boolean, double, float; arrays of these and of your own classes, of "
                + "one dimension, and arrays of two dimensions of numbers; your own classes; String,");
        keeps(3);
        breaks(3, "private double half;");
        breaks(3, "private Part[][] parts;");
        breaks(3, "private int[][][] parts;");
        breaks(3, "private Object any;");
        breaks(3, "private String[] words;");
        breaks(3, "private Object any() { return null; }");
        breaks(3, "private void take(Long n) { }");
        breaks(3, "private java.util.Map<Integer, Integer> map;");
        check.rule("On doubles and floats only + - * /, comparisons and casts, none of which may answer NaN");
        keeps(3);
        breaks(3, "private float half(float n) { return n / 2; }");
        breaks(4, "private int root(int n) { return Math.sqrt(n) > 1 ? 1 : 0; }");
    }

    private void library() throws IOException {
        check.rule("4. The library: only what stands here.");
        keeps(4);
        breaks(4, "private long now() { return System.nanoTime(); }");
        breaks(4, "private int go(String s) { return s.hashCode(); }");
        breaks(4, "private int go() { return Integer.MAX_VALUE; }");
        breaks(4, "private Object go() { return new Object(); }");
        breaksAs(4, "import java.util.Random;\n" + SMALL, "an import");
        check.rule("constants, whose signs are 1 to 127");
        keeps(4);
        breaks(4, "private static final String SIGN = \"\u00e9\";");
        breaks(4, "private static final String SIGN = \"\\0\";");
        check.rule("none of those whose name ends in Exact");
        keeps(4);
        breaks(4, "private int go(int n) { return Math.addExact(n, n); }");
    }

    private void staticFields() throws IOException {
        check.rule("5. Static fields are final: constants of int, long, boolean, char or String,");
        keeps(5);
        breaks(5, "private static int many;");
        breaks(5, "private static final Part ONE = new Part();");
        check.rule("No other static state, no static initialiser block.");
        keeps(5);
        breaks(5, "static { }");
        breaksInPart(5, "static int many;");
    }

    private void exceptions() throws IOException {
        check.rule("6. Exceptions: throw new E() or throw new E(\"a written text\"), E one of IllegalStateException, "
                + "IllegalArgumentException, IndexOutOfBoundsException, ArithmeticException, UnsupportedOperationException, "
                + "NoSuchElementException, RuntimeException.");
        keeps(6);
        breaks(6, "private void go() { throw new NullPointerException(); }");
        breaks(6, "private void go(String s) { throw new IllegalStateException(s); }");
        breaks(6, "private void go(RuntimeException e) { throw e; }");
        check.rule("A call of the face throws exactly what and where the document says, and nothing else ever reaches its caller.");
        keeps(6);
        breaks(6, "public int go() { throw new IllegalStateException(); }");
        breaks(6, "public int go() { return deep(); } private int deep() { throw new IllegalStateException(); }");
        breaks(6, "public int go() throws IllegalStateException { return 1; }");
        check.rule("a catch leaves the exception itself alone (no getMessage, no rethrow). No finally, no try with resources, no "
                + "exception classes of your own,");
        keeps(6);
        breaks(6, "private void go() { try { fault(); } finally { fault(); } }");
        breaks(6, "private void go() { try { fault(); } catch (RuntimeException e) { fault(); } }");
        breaks(2, "private static final class Bad extends RuntimeException { }");
        check.rule("no throw in a constructor. No synchronized, assert, switch with patterns,");
        keeps(6);
        breaksInPart(6, "Part(int n) { throw new IllegalStateException(); }");
        breaks(6, "private synchronized void go() { }");
        breaks(6, "private void go() { synchronized (this) { fault(); } }");
        breaks(6, "private void go(int n) { assert n > 0; }");
        check.rule("never between two Strings or two Integers. No equals, hashCode or toString of your own objects or records;");
        keeps(6);
        breaks(6, "private boolean go(String a, String b) { return a == b; }");
        breaks(6, "public boolean equals(Object o) { return o == this; }");
        breaksInPart(6, "public String toString() { return null; }");
    }

    private void recursion() throws IOException {
        check.rule("a guard on the depth: the depth is carried as an argument,");
        keeps(8);
        breaks(8, "private int go(int n) { return n > 0 ? go(n - 1) : 0; }");
        breaks(8, "private int go(int n) { return come(n); } private int come(int n) { return n > 0 ? go(n - 1) : 0; }");
    }

    private void loops() throws IOException {
        check.rule("9. Every loop has an end that can be seen from its own lines (a counter against a bound,");
        keeps(9);
        breaks(9, "private void go() { for (; fault() > 0; ) { fault(); } }");
        breaks(9, "private void go() { for (int i = 0; fault() > 0; i++) { fault(); } }");
        breaks(9, "private void go(int n) { for (int i = 0; i < n || fault() > 0; i++) { fault(); } }");
        breaks(9, "private void go(int n) { for (int i = 0; i < n; i++) { i = 0; } }");
        breaks(9, "private void go(int n) { for (int i = 0; i < n; i++) { i--; } }");
        breaks(9, "private void go() { while (fault() > 0) { fault(); } }");
    }

    private void statements() throws IOException {
        check.rule("switch on numbers and on enums,");
        keeps(10);
        breaks(10, "private int go(int n) { return switch (n) { case 1 -> 2; default -> 3; }; }");
        check.rule("joining texts by StringBuilder (not by +).");
        keeps(10);
        breaks(10, "private String go(int n) { return \"n\" + n; }");
        breaks(10, "private String go(String s) { s += 1; return s; }");
    }

    private void sizes() throws IOException {
        check.rule("11. A method takes at most seven parameters.");
        keeps(11);
        breaks(11, "private void go(int a, int b, int c, int d, int e, int f, int g, int h) { }");
        check.rule("Methods stay short (some sixty lines),");
        keeps(11);
        breaks(11, "private void go() {\n" + Scenes.lines("fault();\n", 60).replace("\n;", "\n") + "}");
        check.rule("calls that are no recursion go at most eight deep,");
        keeps(11);
        breaks(11, "public int go() { return a(); }" + chain("abcdefgh"));
        check.rule("the file has at most some twelve classes, and a class some twenty fields beside its constants.");
        keeps(11);
        breaks(11, "private static final class " + String.join(" { } private static final class ",
                List.of("A B C D E F G H I J K".split(" "))) + " { }");
        breaksInPart(11, "int " + String.join(", ", List.of("a b c d e f g h i j k l m n o p q r s t u".split(" "))) + ";");
    }

    /** Each calls the next one. */
    private static String chain(String names) {
        StringBuilder text = new StringBuilder();
        for (int i = 0; i < names.length(); i++) {
            String next = i + 1 < names.length() ? names.charAt(i + 1) + "()" : "0";
            text.append(" private int ").append(names.charAt(i)).append("() { return ").append(next).append("; }");
        }
        return text.toString();
    }

    private void objects() throws IOException {
        check.rule("What a run makes is counted, the library's own objects too");
        keeps(12);
        breaks(12, "private int[] go() { return new int[9]; }");
        breaks(12, "private Part go() { return new Part(); }");
        check.rule("A constructor calls no method that another class could override and hands out nothing of the object "
                + "that it makes.");
        keeps(12);
        breaksInPart(12, "Part(Part other) { other.take(this); } void take(Part part) { }");
        breaksAs(2, SMALL.replace("private static final class Part", "private static class Part"), "a class to extend");
    }

    // ---- what no source shows

    /** On objects that were used in drawn ways, with numbers next to all bounds: the exceptions are those told. */
    private void throwsByItself() throws IOException {
        check.rule("7. No call may ever throw by itself (only by a throw statement) or fail to end, for any arguments in any "
                + "state: an index is looked at before it is used, a divisor before it divides,");
        keeps(7);
        breaks(7, "private int go(int n) { return 9 / n; }");
        breaks(7, "private int go(int n) { return 9 % n; }");
        breaks(7, "private int go(int n) { int m = 9; m /= n; return m; }");
        breaks(7, "private int go() { return 9 / 0; }");
        check.rule("a reference against null before it is used, a list's size before get and remove.");
        keeps(7);
        breaks(7, "private Part none() { return null; }");
        breaks(3, "private java.util.List<Part> parts;");
        callsThrowWhatIsTold();
    }

    private void callsThrowWhatIsTold() {
        check.rule("or fail to end, for any arguments in any state:");
        for (int run = 0; run < OBJECTS; run++) {
            Random draws = new Random(run);
            YearRope x = begun(run);
            for (int i = 0; i < CALLS - 100; i++) {
                Method call = drawnCall(draws);
                Object[] numbers = numbers(draws, call);
                String outcome = outcome(x, call, numbers);
                boolean told = !outcome.startsWith("throws ");
                for (Class<?> one : call.getExceptionTypes()) {
                    told |= outcome.equals("throws " + one.getName());
                }
                boolean right = told;
                check.due("run " + run + ", " + call.getName() + List.of(numbers) + " is told: " + outcome, true, () -> right);
            }
        }
    }

    private void sameAnswers() {
        check.rule("13. No clock, no randomness, no file, network, thread or environment; the same calls always give the same "
                + "answers.");
        for (int run = 0; run < OBJECTS; run++) {
            int seed = run;
            check.due("run " + run + " once more", answers(run), () -> answers(seed));
        }
    }

    private static String answers(int run) {
        Random draws = new Random(-run);
        YearRope x = begun(run);
        StringBuilder answers = new StringBuilder();
        for (int i = 0; i < CALLS - 100; i++) {
            Method call = drawnCall(draws);
            answers.append(outcome(x, call, numbers(draws, call))).append(' ');
        }
        return answers.toString();
    }

    private static YearRope begun(int run) {
        return switch (run % 5) {
            case 0 -> Scenes.empty();
            case 1 -> Scenes.oneRope();
            case 2 -> Scenes.busy();
            case 3 -> Scenes.twelveTexts();
            default -> Scenes.full();
        };
    }

    private static Method drawnCall(Random draws) {
        List<Method> calls = new ArrayList<>();
        for (Method method : YearRope.class.getDeclaredMethods()) {
            if (Modifier.isPublic(method.getModifiers())) {
                calls.add(method);
            }
        }
        calls.sort(Comparator.comparing(Method::getName));
        return calls.get(draws.nextInt(calls.size()));
    }

    private static Object[] numbers(Random draws, Method call) {
        Object[] numbers = new Object[call.getParameterCount()];
        for (int i = 0; i < numbers.length; i++) {
            boolean small = draws.nextInt(3) > 0;
            numbers[i] = call.getParameterTypes()[i] == boolean.class ? (Object) draws.nextBoolean()
                    : small ? draws.nextInt(10) : EXTREMES[draws.nextInt(EXTREMES.length)];
        }
        return numbers;
    }

    private static String outcome(YearRope x, Method call, Object[] numbers) {
        try {
            return String.valueOf(call.invoke(x, numbers));
        } catch (InvocationTargetException e) {
            return "throws " + e.getCause().getClass().getName();
        } catch (IllegalAccessException e) {
            throw new AssertionError(e);
        }
    }
}

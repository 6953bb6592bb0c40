import java.io.IOException;
import java.lang.reflect.Constructor;
import java.lang.reflect.Field;
import java.lang.reflect.Method;
import java.lang.reflect.Modifier;
import java.nio.charset.StandardCharsets;
import java.nio.file.Files;
import java.nio.file.Path;
import java.util.ArrayList;
import java.util.HashSet;
import java.util.List;
import java.util.Set;
import java.util.TreeSet;
import java.util.regex.Matcher;
import java.util.regex.Pattern;

/** The public face is the document's and no more, and the source keeps to what LANGUAGE.md lets be seen in it. */
public final class FaceTest {

    private static final String INDEX = "IndexOutOfBoundsException";
    private static final String ARGUMENT = "IllegalArgumentException";
    private static final String STATE = "IllegalStateException";
    private static final String SUPPORT = "UnsupportedOperationException";
    private static final String ELEMENT = "NoSuchElementException";

    private static final String[] FACE = {
        "int feed(int, int, int, int, int)", "boolean end(int)", "int walk() " + ARGUMENT + " " + SUPPORT,
        "int law() " + ARGUMENT, "int fault()", "int yarn(int, int) " + INDEX + " " + ELEMENT,
        "int rope(int, int) " + INDEX + " " + ELEMENT, "int order(int, int) " + INDEX + " " + ELEMENT,
        "int bears(int, int, int, int) " + INDEX + " " + ARGUMENT,
        "int lay(int, int, int, int) " + INDEX + " " + ARGUMENT + " " + STATE + " " + SUPPORT,
        "int tar(int) " + INDEX + " " + STATE, "boolean whip(int) " + INDEX + " " + STATE,
        "int twice(int) " + INDEX + " " + STATE,
        "int cut(int, int) " + INDEX + " " + ARGUMENT + " " + STATE + " " + SUPPORT,
        "int hang(int, int) " + INDEX + " " + ARGUMENT + " " + STATE, "int meet(int, int) " + INDEX + " " + STATE,
        "int pick(int) " + INDEX, "int seasons(int) " + ARGUMENT, "int best(int) " + ARGUMENT,
        "int cheapest(int) " + INDEX, "int can(boolean)", "int most(boolean)", "int cuts(int, boolean) " + INDEX,
        "int walks(int) " + ARGUMENT, "int share(int, int, int) " + INDEX + " " + ARGUMENT,
        "boolean shared(int, int, int) " + INDEX + " " + ARGUMENT, "int oakum(int, int, int) " + ELEMENT,
        "int holds(int, boolean) " + INDEX, "int would(int, int) " + INDEX + " " + ELEMENT, "int weakest()",
        "int fewest()", "int buys(int) " + ARGUMENT, "int skips()", "int loose()", "int lasts(int) " + ARGUMENT,
        "int trial(int, boolean) " + ARGUMENT, "int span(int, boolean) " + ARGUMENT,
        "int led(int, boolean) " + INDEX, "int log(int, int) " + ELEMENT, "int seed(int)", "boolean undo()",
        "void image()", "boolean back()", "int count(int)"};

    private static final String[] NEVER = {"->", "::", "try", "catch", "finally", "synchronized", "assert", "var",
        "System.out", "Exact", "java.util.function", "volatile", "transient", "native", "goto", "while"};

    public static void main(String[] args) throws IOException {
        Check check = new Check("FaceTest");
        members(check);
        nestedClasses(check);
        source(check, Files.readString(Path.of("src/main/java/YearRope.java"), StandardCharsets.ISO_8859_1));
        check.end();
    }

    private static String signature(Method method) {
        List<String> parameters = new ArrayList<>();
        for (Class<?> parameter : method.getParameterTypes()) {
            parameters.add(parameter.getSimpleName());
        }
        StringBuilder text = new StringBuilder(method.getReturnType().getSimpleName()).append(' ')
                .append(method.getName()).append('(').append(String.join(", ", parameters)).append(')');
        for (Class<?> thrown : method.getExceptionTypes()) {
            text.append(' ').append(thrown.getSimpleName());
        }
        return text.toString();
    }

    private static void members(Check check) {
        check.due("public and final", Modifier.PUBLIC | Modifier.FINAL, YearRope.class::getModifiers);
        Set<String> found = new TreeSet<>();
        Set<String> names = new HashSet<>();
        for (Method method : YearRope.class.getDeclaredMethods()) {
            if (!Modifier.isPrivate(method.getModifiers())) {
                check.due(method + " is public and of the object", Modifier.PUBLIC, method::getModifiers);
                found.add(signature(method));
                names.add(method.getName());
            }
        }
        check.due("the methods", new TreeSet<>(List.of(FACE)), () -> found);
        for (Method method : YearRope.class.getDeclaredMethods()) {
            boolean twin = Modifier.isPrivate(method.getModifiers()) && names.contains(method.getName());
            check.due(method + " bears a public name", false, () -> twin);
        }
        for (Field field : YearRope.class.getDeclaredFields()) {
            boolean none = field.getName().equals("NONE");
            check.due(field + " is as it may be", true, () -> none ? Modifier.isPublic(field.getModifiers())
                    : Modifier.isPrivate(field.getModifiers()));
            check.due(field + " is no changing static", true,
                    () -> !Modifier.isStatic(field.getModifiers()) || Modifier.isFinal(field.getModifiers()));
        }
        Constructor<?>[] constructors = YearRope.class.getDeclaredConstructors();
        check.due("one constructor", 1, () -> constructors.length);
        check.due("public", true, () -> Modifier.isPublic(constructors[0].getModifiers()));
        check.due("without parameters", 0, () -> constructors[0].getParameterCount());
    }

    private static void nestedClasses(Check check) {
        Class<?>[] nested = YearRope.class.getDeclaredClasses();
        check.due("some twelve classes at most", true, () -> nested.length + 1 <= 12);
        for (Class<?> one : nested) {
            check.due(one + " is static", true, () -> Modifier.isStatic(one.getModifiers()));
            check.due(one + " is not public", false,
                    () -> Modifier.isPublic(one.getModifiers()) || Modifier.isProtected(one.getModifiers()));
            long fields = List.of(one.getDeclaredFields()).stream().filter(f -> !Modifier.isStatic(f.getModifiers())).count();
            check.due(one + " has some twenty fields at most", true, () -> fields <= 20);
            for (Method method : one.getDeclaredMethods()) {
                check.due(method + " has seven parameters at most", true, () -> method.getParameterCount() <= 7);
            }
        }
    }

    private static void source(Check check, String text) {
        check.due("no package", false, () -> text.contains("package "));
        check.due("signs 1 to 127", true, () -> text.chars().allMatch(c -> c > 0 && c < 128));
        Matcher imports = Pattern.compile("^import (.*);$", Pattern.MULTILINE).matcher(text);
        while (imports.find()) {
            check.due("import", "java.util.NoSuchElementException", () -> imports.group(1));
        }
        String code = text.replaceAll("(?s)/\\*.*?\\*/", "").replaceAll("//.*", "").replaceAll("\"[^\"\n]*\"", "\"\"");
        for (String word : NEVER) {
            String pattern = Character.isLetter(word.charAt(0)) ? "\\b" + Pattern.quote(word) + "\\b" : Pattern.quote(word);
            check.due("the source has " + word, false, () -> Pattern.compile(pattern).matcher(code).find());
        }
        Matcher thrown = Pattern.compile("throw .*").matcher(code);
        while (thrown.find()) {
            String found = thrown.group();
            check.due(found, true, () -> found.matches("throw new (" + String.join("|", INDEX, ARGUMENT, STATE, SUPPORT,
                    ELEMENT) + ")\\(\"\"\\);"));
        }
        methodsAreShort(check, code);
    }

    /** A method of a class at the depth of d blanks begins with a brace at a line's end and ends with one alone. */
    private static void methodsAreShort(Check check, String code) {
        String[] lines = code.split("\n");
        for (int i = 0; i < lines.length; i++) {
            String indent = lines[i].replaceAll("\\S.*", "");
            boolean begins = lines[i].endsWith("{") && !lines[i].contains(" class ") && indent.length() <= 8;
            for (int j = i; begins && j < lines.length; j++) {
                if (lines[j].equals(indent + "}")) {
                    int size = j - i + 1;
                    String name = lines[i].trim();
                    check.due("short: " + name, true, () -> size <= 60);
                    break;
                }
            }
        }
    }
}

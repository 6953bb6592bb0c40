import java.io.IOException;
import java.lang.reflect.Constructor;
import java.lang.reflect.Field;
import java.lang.reflect.Method;
import java.lang.reflect.Modifier;
import java.nio.charset.StandardCharsets;
import java.nio.file.Files;
import java.nio.file.Path;
import java.util.ArrayList;
import java.util.List;
import java.util.Set;
import java.util.TreeSet;

/** The public face is the document's code block and no more: in the source to the letter, and in the class compiled. */
public final class FaceTest {

    private static final String CLASS = "public final class YearRope {";
    private static final int MEMBERS = 2 + 44;

    private final Check check = new Check("FaceTest");
    private final Set<String> members = new TreeSet<>();

    public static void main(String[] args) throws IOException {
        FaceTest test = new FaceTest();
        test.codeBlock();
        test.source();
        test.compiled();
        test.promises();
        test.constants();
        test.check.end();
    }

    private void codeBlock() {
        check.sentence("```java import java.util.NoSuchElementException; " + CLASS);
        int begin = Doc.TEXT.indexOf(CLASS) + CLASS.length();
        int end = Doc.TEXT.indexOf("} ```", begin);
        for (String member : Doc.TEXT.substring(begin, end).split(";")) {
            if (!member.isBlank()) {
                members.add(member.trim() + ";");
            }
        }
        check.due("how many members the document has", MEMBERS, members::size);
    }

    private void source() throws IOException {
        String text = Files.readString(Path.of("src/main/java/YearRope.java"), StandardCharsets.ISO_8859_1);
        check.due("it begins", true, () -> text.startsWith("import java.util.NoSuchElementException;\n"));
        check.due("its class", true, () -> text.contains("\n" + CLASS + "\n"));
        List<String> face = new Language(text).face();
        check.due("its public members", members, () -> new TreeSet<>(face));
        check.due("each once", MEMBERS, face::size);
    }

    private void compiled() {
        check.due("public and final", Modifier.PUBLIC | Modifier.FINAL, YearRope.class::getModifiers);
        check.due("of no other class", Object.class, YearRope.class::getSuperclass);
        Set<String> told = new TreeSet<>();
        for (String member : members) {
            told.add(member.replaceAll("\\b(int|boolean) \\w+(?=[,)])", "$1"));
        }
        told.remove("public static final int NONE = -1;");
        Set<String> found = new TreeSet<>();
        for (Constructor<?> one : YearRope.class.getConstructors()) {
            found.add(Modifier.toString(one.getModifiers()) + " YearRope" + types(one.getParameterTypes(), "(", ")") + ";");
        }
        for (Method one : YearRope.class.getMethods()) {
            if (one.getDeclaringClass() == YearRope.class) {
                String thrown = one.getExceptionTypes().length == 0 ? "" : types(one.getExceptionTypes(), " throws ", "");
                found.add(Modifier.toString(one.getModifiers()) + " " + one.getReturnType().getSimpleName() + " "
                        + one.getName() + types(one.getParameterTypes(), "(", ")") + thrown + ";");
            }
        }
        check.due("what can be called", told, () -> found);
    }

    private static String types(Class<?>[] types, String begin, String end) {
        List<String> names = new ArrayList<>();
        for (Class<?> type : types) {
            names.add(type.getSimpleName());
        }
        return begin + String.join(", ", names) + end;
    }

    /** Each promise names a member of the code block. */
    private void promises() {
        int promises = 0;
        for (String member : members) {
            String told = member.replaceAll("^public |;$", "");
            boolean found = Doc.TEXT.contains("`" + told + "`: ");
            promises += found ? 1 : 0;
            check.due("a promise has " + told, !told.contains("NONE"), () -> found);
        }
        int all = promises;
        check.due("how many promises", MEMBERS - 1, () -> all);
    }

    private void constants() {
        check.sentence("public static final int NONE = -1;");
        check.due("NONE", -1, () -> YearRope.NONE);
        for (Field field : YearRope.class.getFields()) {
            check.due(field + " is the only constant", "public static final int YearRope.NONE", field::toString);
        }
        for (Field field : YearRope.class.getDeclaredFields()) {
            check.due(field + " is private, but NONE", !field.getName().equals("NONE"),
                    () -> Modifier.isPrivate(field.getModifiers()));
        }
    }
}

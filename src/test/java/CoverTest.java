import java.io.IOException;
import java.nio.charset.StandardCharsets;
import java.nio.file.DirectoryStream;
import java.nio.file.Files;
import java.nio.file.Path;
import java.util.regex.Matcher;
import java.util.regex.Pattern;

/**
 * Each word of the document that tells what the class does is quoted by a test (see Check.sentence), each boundary that
 * it names by a test of boundaries, and each rule of LANGUAGE.md by LanguageTest (see Check.rule).
 */
public final class CoverTest {

    private static final Pattern BOUNDARY = Pattern.compile("\\bat (most|least|first)\\b|\\b\\d+ to (\\d+|LONG)\\b"
            + "|\\b(none|NONE|empty|blanks|alone|rounded|below|above|wrong|latest|remembered|fewer|unlike)\\b"
            + "|goes round|another what|\\w+Exception: ");
    private static final Pattern WORD = Pattern.compile("\\w+");
    private static final Pattern LITERAL = Pattern.compile("\"((?:[^\"\\\\]|\\\\.)*)\"");
    /** Headings, fences, and the face, which FaceTest compares to the letter. */
    private static final Pattern FRAME = Pattern.compile("## (The public face|Terms|Promise \\d+: [^`]*)|```java.*?```"
            + "|```(text)?|(?<!`)`[^`]+`(?!`)|==== \\d\\.");
    private static final String BEGIN = "An object is used for";
    private static final String END = "## Not promised";
    private static final int PROMISES = 45;
    private static final int RULES = 13;

    private final Check check = new Check("CoverTest");
    private final boolean[] bounded = new boolean[Doc.TEXT.length()];
    private final boolean[] quoted = new boolean[Doc.TEXT.length()];
    private final boolean[] ruled = new boolean[Doc.RULES.length()];
    private final int begin = Doc.TEXT.indexOf(BEGIN);
    private final int end = Doc.TEXT.indexOf(END);

    public static void main(String[] args) throws IOException {
        CoverTest test = new CoverTest();
        test.check.due("the document has its parts", true, () -> test.begin >= 0 && test.end > test.begin);
        test.markQuotes("*BoundsTest.java", "sentence", Doc.TEXT, test.bounded);
        test.markQuotes("*Test.java", "sentence", Doc.TEXT, test.quoted);
        test.markQuotes("LanguageTest.java", "rule", Doc.RULES, test.ruled);
        test.boundaries();
        test.words();
        test.promises();
        test.rules();
        test.check.end();
    }

    private void markQuotes(String files, String call, String text, boolean[] marks) throws IOException {
        Pattern quotes = Pattern.compile("\\." + call + "\\(((?:\\s*\\+?\\s*\"(?:[^\"\\\\]|\\\\.)*\")+)\\)");
        try (DirectoryStream<Path> found = Files.newDirectoryStream(Path.of("src/test/java"), files)) {
            for (Path file : found) {
                Matcher quote = quotes.matcher(Files.readString(file, StandardCharsets.UTF_8));
                while (quote.find()) {
                    mark(joined(quote.group(1)), text, marks);
                }
            }
        }
    }

    /** The pieces that a quote is joined of in the test's source. */
    private static String joined(String literals) {
        StringBuilder text = new StringBuilder();
        Matcher literal = LITERAL.matcher(literals);
        while (literal.find()) {
            text.append(literal.group(1).replace("\\\"", "\""));
        }
        return text.toString();
    }

    private void mark(String quote, String text, boolean[] marks) {
        int at = text.indexOf(quote);
        check.due("there stands '" + quote + "'", true, () -> at >= 0);
        for (int i = at; at >= 0 && i < at + quote.length(); i++) {
            marks[i] = true;
        }
    }

    private boolean[] frame() {
        boolean[] frame = new boolean[Doc.TEXT.length()];
        Matcher found = FRAME.matcher(Doc.TEXT);
        while (found.find()) {
            for (int i = found.start(); i < found.end(); i++) {
                frame[i] = true;
            }
        }
        return frame;
    }

    private void boundaries() {
        boolean[] frame = frame();
        Matcher boundary = BOUNDARY.matcher(Doc.TEXT).region(begin, end);
        while (boundary.find()) {
            int at = boundary.start();
            check.due("a test of boundaries quotes " + around(at, boundary.end()), true, () -> bounded[at] || frame[at]);
        }
    }

    private void words() {
        boolean[] frame = frame();
        Matcher word = WORD.matcher(Doc.TEXT).region(begin, end);
        while (word.find()) {
            int first = word.start();
            int last = word.end() - 1;
            boolean whole = quoted[first] && quoted[last] || frame[first] && frame[last];
            check.due("a test quotes '" + word.group() + "' in " + around(first, last), true, () -> whole);
        }
    }

    private String around(int from, int to) {
        return "'.." + Doc.TEXT.substring(Math.max(0, from - 40), Math.min(Doc.TEXT.length(), to + 30)) + "..'";
    }

    private void promises() {
        for (int promise = 1; promise <= PROMISES; promise++) {
            int from = Doc.TEXT.indexOf("## Promise " + promise + ":");
            int to = Doc.TEXT.indexOf("## ", from + 1);
            check.due("a test of boundaries quotes promise " + promise, true, () -> hasMark(bounded, from, to));
        }
        check.due("there is no promise more", -1, () -> Doc.TEXT.indexOf("## Promise " + (PROMISES + 1) + ":"));
    }

    /** What stands ahead of the first rule counts as rule 0. */
    private void rules() {
        int from = 0;
        for (int rule = 0; rule <= RULES; rule++) {
            int number = rule;
            int begins = from;
            int next = rule == RULES ? Doc.RULES.length() : Doc.RULES.indexOf(" " + (rule + 1) + ". ", from);
            check.due("LanguageTest quotes rule " + number, true, () -> next > begins && hasMark(ruled, begins, next));
            from = next;
        }
    }

    private static boolean hasMark(boolean[] marks, int from, int to) {
        for (int i = Math.max(0, from); i < to; i++) {
            if (marks[i]) {
                return true;
            }
        }
        return false;
    }
}

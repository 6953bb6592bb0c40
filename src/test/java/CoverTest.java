import java.io.IOException;
import java.nio.charset.StandardCharsets;
import java.nio.file.DirectoryStream;
import java.nio.file.Files;
import java.nio.file.Path;
import java.util.regex.Matcher;
import java.util.regex.Pattern;

/** Each place of the document that names a boundary, and each promise, is quoted by a test: see Check.sentence. */
public final class CoverTest {

    private static final Pattern BOUNDARY = Pattern.compile("\\bat (most|least|first)\\b|\\b\\d+ to (\\d+|LONG)\\b"
            + "|\\b(none|NONE|empty|blanks|alone|rounded|below|above|wrong|latest|remembered|fewer|unlike)\\b"
            + "|goes round|another what|\\w+Exception: ");
    private static final Pattern QUOTE = Pattern.compile("\\.sentence\\(((?:\\s*\\+?\\s*\"(?:[^\"\\\\]|\\\\.)*\")+)\\)");
    private static final Pattern LITERAL = Pattern.compile("\"((?:[^\"\\\\]|\\\\.)*)\"");
    private static final Pattern SIGNATURE = Pattern.compile("(?<!`)`[^`]+`(?!`)");
    private static final int PROMISES = 45;

    private final Check check = new Check("CoverTest");
    private final boolean[] quoted = new boolean[Doc.TEXT.length()];

    public static void main(String[] args) throws IOException {
        CoverTest test = new CoverTest();
        test.markQuotes();
        test.boundaries();
        test.promises();
        test.check.end();
    }

    private void markQuotes() throws IOException {
        try (DirectoryStream<Path> files = Files.newDirectoryStream(Path.of("src/test/java"), "*BoundsTest.java")) {
            for (Path file : files) {
                Matcher quote = QUOTE.matcher(Files.readString(file, StandardCharsets.UTF_8));
                while (quote.find()) {
                    mark(joined(quote.group(1)));
                }
            }
        }
    }

    /** The pieces that a quote is joined of in the test's source. */
    private static String joined(String literals) {
        StringBuilder text = new StringBuilder();
        Matcher literal = LITERAL.matcher(literals);
        while (literal.find()) {
            text.append(literal.group(1));
        }
        return text.toString();
    }

    private void mark(String quote) {
        int at = Doc.TEXT.indexOf(quote);
        check.due("the document has '" + quote + "'", true, () -> at >= 0);
        for (int i = at; at >= 0 && i < at + quote.length(); i++) {
            quoted[i] = true;
        }
    }

    private void boundaries() {
        int begin = Doc.TEXT.indexOf("## Terms");
        int end = Doc.TEXT.indexOf("## Not promised");
        boolean[] signed = new boolean[Doc.TEXT.length()];
        Matcher signature = SIGNATURE.matcher(Doc.TEXT);
        while (signature.find()) {
            for (int i = signature.start(); i < signature.end(); i++) {
                signed[i] = true;
            }
        }
        Matcher boundary = BOUNDARY.matcher(Doc.TEXT).region(begin, end);
        while (boundary.find()) {
            int at = boundary.start();
            String around = Doc.TEXT.substring(Math.max(0, at - 40), Math.min(end, boundary.end() + 30));
            check.due("a test quotes '.." + around + "..'", true, () -> quoted[at] || signed[at]);
        }
    }

    private void promises() {
        for (int promise = 1; promise <= PROMISES; promise++) {
            int begin = Doc.TEXT.indexOf("## Promise " + promise + ":");
            int end = Doc.TEXT.indexOf("## ", begin + 1);
            boolean found = false;
            for (int i = begin; i < end; i++) {
                found |= quoted[i];
            }
            boolean tried = found;
            check.due("a test quotes promise " + promise, true, () -> tried);
        }
    }
}

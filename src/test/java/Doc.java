import java.io.IOException;
import java.io.UncheckedIOException;
import java.nio.charset.StandardCharsets;
import java.nio.file.Files;
import java.nio.file.Path;

/** The words of the document, and of the language's rules, in one row, a blank between two, so that they can be quoted. */
final class Doc {

    static final String TEXT = read("../shared/DOC.md");
    static final String RULES = read("../shared/LANGUAGE.md");

    private Doc() {
    }

    private static String read(String file) {
        try {
            String text = Files.readString(Path.of(file), StandardCharsets.UTF_8);
            return text.replaceAll("\\s+", " ");
        } catch (IOException e) {
            throw new UncheckedIOException(e);
        }
    }

    static int places(String text, String quote) {
        int places = 0;
        for (int at = text.indexOf(quote); at >= 0; at = text.indexOf(quote, at + 1)) {
            places++;
        }
        return places;
    }
}

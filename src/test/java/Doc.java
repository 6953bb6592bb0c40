import java.io.IOException;
import java.io.UncheckedIOException;
import java.nio.charset.StandardCharsets;
import java.nio.file.Files;
import java.nio.file.Path;

/** The document's words in one row, a blank between two of them, so that its sentences can be quoted. */
final class Doc {

    static final String TEXT = read();

    private Doc() {
    }

    private static String read() {
        try {
            String text = Files.readString(Path.of("../shared/DOC.md"), StandardCharsets.UTF_8);
            return text.replaceAll("\\s+", " ");
        } catch (IOException e) {
            throw new UncheckedIOException(e);
        }
    }

    static int placesOf(String quote) {
        int places = 0;
        for (int at = TEXT.indexOf(quote); at >= 0; at = TEXT.indexOf(quote, at + 1)) {
            places++;
        }
        return places;
    }
}

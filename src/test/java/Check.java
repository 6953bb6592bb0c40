import java.nio.charset.StandardCharsets;
import java.util.Arrays;

/** What the tests share: answers compared, texts fed, and the end of a test. */
final class Check {

    interface Call {
        Object answer();
    }

    private final String test;
    private int checked;
    private int wrong;
    private String sentence;
    private int checkedAhead;

    Check(String test) {
        this.test = test;
    }

    /** The answer as a text; "throws X" for an exception whose class is X itself. */
    static String outcome(Call call) {
        try {
            return String.valueOf(call.answer());
        } catch (RuntimeException e) {
            return "throws " + e.getClass().getSimpleName();
        }
    }

    void due(String what, Object want, Call call) {
        checked++;
        String got = outcome(call);
        if (!got.equals(String.valueOf(want))) {
            blame(what + " answered " + got + ", due is " + want);
        }
    }

    private void blame(String fault) {
        wrong++;
        System.out.println(test + ": " + (sentence == null ? "" : "'" + sentence + "': ") + fault);
    }

    /** What is tried from here on is this sentence, which stands so in the document, and nowhere else in it. */
    void sentence(String quote) {
        beginSentence(quote, Doc.places(Doc.TEXT, quote));
    }

    /** Likewise a sentence of LANGUAGE.md. */
    void rule(String quote) {
        beginSentence(quote, Doc.places(Doc.RULES, quote));
    }

    private void beginSentence(String quote, int places) {
        endSentence();
        sentence = quote;
        checkedAhead = checked;
        if (places != 1) {
            blame("stands there " + places + " times");
        }
    }

    private void endSentence() {
        if (sentence != null && checked == checkedAhead) {
            blame("nothing tries it");
        }
        sentence = null;
    }

    void noIndex(String what, Call call) {
        due(what, "throws IndexOutOfBoundsException", call);
    }

    void noArgument(String what, Call call) {
        due(what, "throws IllegalArgumentException", call);
    }

    void noState(String what, Call call) {
        due(what, "throws IllegalStateException", call);
    }

    void noSupport(String what, Call call) {
        due(what, "throws UnsupportedOperationException", call);
    }

    void noElement(String what, Call call) {
        due(what, "throws NoSuchElementException", call);
    }

    void end() {
        endSentence();
        System.out.println(test + ": " + checked + " checked, " + wrong + " wrong");
        if (wrong != 0 || checked == 0) {
            System.exit(1);
        }
    }

    /** The numbers that feed takes for a text, five a call; behind the text come zeros. */
    static int[][] feeds(String text) {
        byte[] bytes = text.getBytes(StandardCharsets.ISO_8859_1);
        int calls = (bytes.length + 19) / 20;
        byte[] padded = Arrays.copyOf(bytes, calls * 20);
        int[][] rows = new int[calls][5];
        for (int i = 0; i < calls * 5; i++) {
            rows[i / 5][i % 5] = (padded[4 * i] & 255) << 24 | (padded[4 * i + 1] & 255) << 16
                    | (padded[4 * i + 2] & 255) << 8 | padded[4 * i + 3] & 255;
        }
        return rows;
    }

    static void feed(YearRope x, String text) {
        for (int[] row : feeds(text)) {
            x.feed(row[0], row[1], row[2], row[3], row[4]);
        }
        if (!x.end(text.length())) {
            throw new AssertionError("the text is too long for the tape: " + text);
        }
    }

    static int walk(YearRope x, String text) {
        feed(x, text);
        return x.walk();
    }

    static int law(YearRope x, String text) {
        feed(x, text);
        return x.law();
    }

    static YearRope shed(String... texts) {
        YearRope x = new YearRope();
        for (String text : texts) {
            walk(x, text);
        }
        return x;
    }

    void wrongWalk(YearRope x, String text, int fault) {
        noArgument("walk of '" + text + "'", () -> walk(x, text));
        due("fault of '" + text + "'", fault, x::fault);
    }

    void wrongLaw(YearRope x, String text, int fault) {
        noArgument("law of '" + text + "'", () -> law(x, text));
        due("fault of '" + text + "'", fault, x::fault);
    }
}

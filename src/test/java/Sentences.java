import java.io.IOException;
import java.nio.charset.StandardCharsets;
import java.nio.file.Files;
import java.nio.file.Path;
import java.util.Arrays;

/**
 * Checks bound to sentences: what is quoted must stand in the document, each quote must
 * be asked about, and in the end no sentence of the document may be without a quote.
 */
final class Sentences {
    private static final String BEGIN = "======== 1 ", END = "## Not promised";

    private final Check check = new Check();
    private final String document;
    private final boolean[] quoted;
    private String sentence = "no sentence";
    private boolean asked = true;

    private Sentences(String document) {
        this.document = document;
        this.quoted = new boolean[document.length()];
    }

    /** Without the page the answers are still compared, but no quote is looked for. */
    static Sentences of(Path page) throws IOException {
        return new Sentences(Files.isRegularFile(page)
                ? told(Files.readString(page, StandardCharsets.UTF_8)) : "");
    }

    /** The page from the first term on, in one line, without headings, fences and signatures. */
    private static String told(String page) {
        int begin = page.indexOf(BEGIN);
        int end = page.indexOf(END);
        String part = page.substring(begin < 0 ? 0 : begin + BEGIN.length(), end < 0 ? page.length() : end);
        return part.replaceAll("(?s)```java.*?```", "")
                .replaceAll("(?m)^(#|Ahead of the calls|```).*$", "")
                .replaceAll("======== \\d ", "")
                .replaceAll("`[^`]*\\([^`]*\\)`: ", "")
                .replaceAll("\\s+", " ");
    }

    /** What is asked from here on is about this sentence. */
    void says(String quote) {
        check.holds("something is asked about: " + sentence, asked);
        sentence = quote;
        asked = false;
        if (document.isEmpty()) {
            return;
        }
        int at = document.indexOf(quote);
        check.holds("the document says: " + quote, at >= 0);
        for (; at >= 0; at = document.indexOf(quote, at + 1)) {
            Arrays.fill(quoted, at, at + quote.length(), true);
        }
    }

    void due(String call, int got, int want) {
        asked = true;
        check.due("[" + sentence + "] " + call, got, want);
    }

    void due(String what, String got, String want) {
        asked = true;
        check.due("[" + sentence + "] " + what, got, want);
    }

    void close(String name) {
        check.holds("something is asked about: " + sentence, asked);
        StringBuilder open = new StringBuilder();
        for (int i = 0; i < quoted.length; i++) {
            open.append(quoted[i] ? '\n' : document.charAt(i));
        }
        for (String part : open.toString().split("\n+")) {
            check.holds("a test quotes: " + part, part.chars().noneMatch(Character::isLetterOrDigit));
        }
        check.close(name);
    }
}

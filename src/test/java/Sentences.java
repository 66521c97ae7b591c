import java.io.IOException;
import java.nio.file.Files;
import java.nio.file.Path;
import java.util.ArrayList;
import java.util.List;

/**
 * Gives each sentence of the document a test of its own. The words must stand in the document as they are quoted, and
 * none of its terms and promises may be left without a quote: when a sentence there becomes another one, or comes
 * anew, its test is to be looked at.
 */
final class Sentences {
    private static final String FIRST = "LITERALS 0 .. 9 are the ATOMS", BEHIND = "How the state is held inside";

    private final Check check;
    private final String document;
    private final List<String> quotes = new ArrayList<>();

    private Sentences(Check check, String document) {
        this.check = check;
        this.document = document;
    }

    /** Without the document the tests of its sentences run all the same. */
    static Sentences of(Check check, Path document) throws IOException {
        return new Sentences(check, Files.exists(document) ? sentencesOf(Files.readAllLines(document)) : "");
    }

    /** Headings and other marks are no sentences, and where a line ends says nothing. */
    private static String sentencesOf(List<String> lines) {
        StringBuilder text = new StringBuilder();
        for (String line : lines) {
            if (!line.startsWith("#") && !line.startsWith("```") && !line.startsWith("Ahead of the calls")) {
                text.append(line.replaceFirst("^======== \\d ", "")).append(' ');
            }
        }
        return text.toString().replaceAll("\\s+", " ");
    }

    void test(String words, Runnable test) {
        check.about(words);
        if (!document.isEmpty()) {
            check.holds("the document says so", document.contains(words));
        }
        int before = check.passed() + check.failed();
        test.run();
        check.holds("something was checked", check.passed() + check.failed() > before);
        check.about("");
        quotes.add(words);
    }

    int tested() {
        return quotes.size();
    }

    void nothingIsLeftOut() {
        int first = document.indexOf(FIRST);
        int behind = document.indexOf(BEHIND);
        if (!document.isEmpty()) {
            check.holds("the document has terms and promises", first >= 0 && behind > first);
        }
        if (first >= 0 && behind > first) {
            check.same("sentences without a test", untested(first, behind), "");
        }
    }

    private String untested(int first, int behind) {
        StringBuilder left = new StringBuilder(document);
        for (String words : quotes) {
            for (int at = document.indexOf(words); at >= 0; at = document.indexOf(words, at + 1)) {
                left.replace(at, at + words.length(), " ".repeat(words.length()));
            }
        }
        String signature = "`[^`]*`:";
        return left.substring(first, behind).replaceAll(signature, "").replaceAll("[^A-Za-z0-9]+", " ").trim();
    }
}

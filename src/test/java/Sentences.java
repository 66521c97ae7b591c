import java.io.IOException;
import java.nio.file.Files;
import java.nio.file.Path;

/**
 * Gives each sentence of the document that names a boundary case a test of its own. The words must stand in the
 * document as they are quoted: when a sentence there becomes another one, its test is to be looked at again.
 */
final class Sentences {
    private final Check check;
    private final String document;
    private int tested = 0;

    private Sentences(Check check, String document) {
        this.check = check;
        this.document = document;
    }

    static Sentences of(Check check, Path document) throws IOException {
        return new Sentences(check, Files.exists(document) ? plain(Files.readString(document)) : "");
    }

    void test(String words, Runnable test) {
        check.about(words);
        if (!document.isEmpty()) {
            check.holds("the document says so", document.contains(plain(words)));
        }
        int before = check.passed() + check.failed();
        test.run();
        check.holds("something was checked", check.passed() + check.failed() > before);
        check.about("");
        tested++;
    }

    int tested() {
        return tested;
    }

    /** Where a line ends says nothing. */
    private static String plain(String text) {
        return text.replaceAll("\\s+", " ");
    }
}

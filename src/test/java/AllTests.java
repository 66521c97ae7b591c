import java.io.IOException;
import java.nio.file.Path;

/** Runs every test of the project; ends with 1, if one failed. Told are the class's source and the document. */
public final class AllTests {
    private static final int RANDOM_RUNS = 400, DENSE_COURTS = 1500;

    private AllTests() {
    }

    public static void main(String[] args) throws Exception {
        Check check = new Check("RuleCourt");
        sentences(check, Path.of(args.length > 1 ? args[1] : "../shared/DOC.md"));
        ToldTests.run(check);
        ThereTests.run(check);
        TagTests.run(check);
        ThoughtTests.run(check);
        RowTests.run(check);
        LanguageTests.run(check, args.length > 0 ? args[0] : "src/main/java/RuleCourt.java");
        ReadmeTests.run(check, Path.of("README.md"));
        RandomRuns.run(check, RANDOM_RUNS);
        DenseCourts.run(check, DENSE_COURTS);
        System.out.println(check.passed() + " passed, " + check.failed() + " failed");
        if (check.failed() > 0) {
            System.exit(1);
        }
    }

    private static void sentences(Check check, Path document) throws IOException {
        Sentences sentences = Sentences.of(check, document);
        TermSentences.run(check, sentences);
        NeedSentences.run(check, sentences);
        WordSentences.run(check, sentences);
        AnswerSentences.run(check, sentences);
        PromiseSentences.run(check, sentences);
        sentences.nothingIsLeftOut();
        System.out.println(sentences.tested() + " sentences of the document tested");
    }
}

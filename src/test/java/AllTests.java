/** Runs every test of the project; ends with 1, if one failed. */
public final class AllTests {
    private static final int RANDOM_RUNS = 400, DENSE_COURTS = 1500;

    private AllTests() {
    }

    public static void main(String[] args) throws Exception {
        Check check = new Check("RuleCourt");
        ToldTests.run(check);
        ThereTests.run(check);
        TagTests.run(check);
        ThoughtTests.run(check);
        RowTests.run(check);
        LanguageTests.run(check, args.length > 0 ? args[0] : "src/main/java/RuleCourt.java");
        RandomRuns.run(check, RANDOM_RUNS);
        DenseCourts.run(check, DENSE_COURTS);
        System.out.println(check.passed() + " passed, " + check.failed() + " failed");
        if (check.failed() > 0) {
            System.exit(1);
        }
    }
}

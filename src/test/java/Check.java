/** Counts what is as due, and prints what is not. */
final class Check {
    private static final int MOST_PRINTED = 30;

    private final String name;
    private String sentence = "";
    private int passed = 0;
    private int failed = 0;

    Check(String name) {
        this.name = name;
    }

    /** What is checked from here on belongs to a sentence of the document, which is printed with what fails. */
    void about(String words) {
        sentence = words.isEmpty() ? "" : " \"" + words + "\"";
    }

    void same(String what, long got, long due) {
        if (got == due) {
            passed++;
        } else {
            failed++;
            tell(what, String.valueOf(got), String.valueOf(due));
        }
    }

    void same(String what, String got, String due) {
        if (got.equals(due)) {
            passed++;
        } else {
            failed++;
            tell(what, "[" + got + "]", "[" + due + "]");
        }
    }

    void holds(String what, boolean is) {
        same(what, is ? 1 : 0, 1);
    }

    private void tell(String what, String got, String due) {
        if (failed <= MOST_PRINTED) {
            System.out.println(name + sentence + ": " + what + " answered " + got + ", due is " + due);
        }
    }

    int passed() {
        return passed;
    }

    int failed() {
        return failed;
    }
}

/** Counts what is as due, and prints what is not. */
final class Check {
    private final String name;
    private int passed = 0;
    private int failed = 0;

    Check(String name) {
        this.name = name;
    }

    void same(String what, long got, long due) {
        if (got == due) {
            passed++;
        } else {
            failed++;
            if (failed <= 30) {
                System.out.println(name + ": " + what + " answered " + got + ", due is " + due);
            }
        }
    }

    void same(String what, String got, String due) {
        if (!got.equals(due)) {
            System.out.println(name + ": " + what + " is [" + got + "], due is [" + due + "]");
        }
        same(what, got.equals(due) ? 1 : 0, 1);
    }

    int passed() {
        return passed;
    }

    int failed() {
        return failed;
    }
}

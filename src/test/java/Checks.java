/** Counts answers that are not due, tells them, and ends a test with exit code 1 if there was one. */
final class Checks {
    private final String test;
    private int checked = 0;
    private int wrong = 0;

    Checks(String test) {
        this.test = test;
    }

    void due(String call, long got, long want) {
        checked++;
        if (got != want) {
            wrong++;
            if (wrong <= 50) {
                System.out.println(test + ": " + call + " answered " + got + ", due is " + want);
            }
        }
    }

    void due(String call, boolean got, boolean want) {
        due(call, got ? 1L : 0L, want ? 1L : 0L);
    }

    void fault(String what) {
        checked++;
        wrong++;
        System.out.println(test + ": " + what);
    }

    int wrong() {
        return wrong;
    }

    void end() {
        System.out.println(test + ": " + checked + " checked, " + wrong + " wrong");
        if (wrong != 0 || checked == 0) {
            System.exit(1);
        }
    }
}

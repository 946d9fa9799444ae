/** Counts the answers that are not as due, and ends a test by them. */
final class Check {
    private int checked = 0;
    private int wrong = 0;

    void due(String call, long got, long want) {
        checked++;
        if (got != want) {
            wrong++;
            System.out.println(call + " answered " + got + ", due is " + want);
        }
    }

    void holds(String what, boolean true_) {
        due(what, true_ ? 1 : 0, 1);
    }

    boolean hasWrong() {
        return wrong > 0;
    }

    void end(String name) {
        System.out.println(name + ": " + checked + " checked, " + wrong + " not as due");
        if (wrong > 0 || checked == 0) {
            System.exit(1);
        }
    }
}

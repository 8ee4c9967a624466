/** Counts a test's answers, and ends it as the tests under ../shared/tests end. */
final class Report {
    private int right = 0;
    private int wrong = 0;

    void due(String call, long got, long want) {
        if (got == want) {
            right++;
            return;
        }
        wrong++;
        System.out.println(call + " answered " + got + ", due is " + want);
    }

    void due(String call, String got, String want) {
        if (got.equals(want)) {
            right++;
            return;
        }
        wrong++;
        System.out.println(call + " answered " + got + ", due is " + want);
    }

    boolean isClean() {
        return wrong == 0;
    }

    void end() {
        System.out.println(wrong == 0
            ? "all " + right + " answers are as due"
            : wrong + " of " + (right + wrong) + " answers are not as due");
        if (wrong != 0 || right == 0) {
            System.exit(1);
        }
    }
}

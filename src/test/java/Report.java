/** Counts a test's answers, and ends it as the tests under ../shared/tests end. */
final class Report {
    private String sentence = "";
    private int inSentence = 1;
    private int right = 0;
    private int wrong = 0;

    /** What is due from here on is due by these words of the document. */
    void sentence(String words) {
        closeSentence();
        sentence = words;
        inSentence = 0;
    }

    /** A sentence without an answer would be one that is not tested. */
    private void closeSentence() {
        if (inSentence == 0) {
            say("no call", "nothing", "an answer");
        }
    }

    void due(String call, long got, long want) {
        due(call, Long.toString(got), Long.toString(want));
    }

    void due(String call, String got, String want) {
        inSentence++;
        if (got.equals(want)) {
            right++;
            return;
        }
        say(call, got, want);
    }

    private void say(String call, String got, String want) {
        wrong++;
        String by = sentence.isEmpty() ? "" : " (" + sentence + ")";
        System.out.println(call + " answered " + got + ", due is " + want + by);
    }

    boolean isClean() {
        return wrong == 0;
    }

    void end() {
        closeSentence();
        System.out.println(wrong == 0
            ? "all " + right + " answers are as due"
            : wrong + " of " + (right + wrong) + " answers are not as due");
        if (wrong != 0 || right == 0) {
            System.exit(1);
        }
    }
}

/** Counts what a test finds, prints what is not as due, and ends the test's program. */
final class Check {
    static final long UNKNOWN = -10000001;
    static final long BAD_VALUE = -10000002;
    static final long REFUSED = -10000003;
    static final long FULL = -10000004;
    static final long NONE = -10000005;

    // A model that went astray would fill the log of a run.
    private static final int MOST_LINES = 100;

    private int right;
    private int wrong;

    void due(String call, long got, long want) {
        if (got == want) {
            right++;
        } else {
            tellWrong(call + " answered " + got + ", due is " + want);
        }
    }

    void holds(String what, boolean is) {
        if (is) {
            right++;
        } else {
            tellWrong("this does not hold: " + what);
        }
    }

    private void tellWrong(String line) {
        wrong++;
        if (wrong <= MOST_LINES) {
            System.out.println(line);
        }
    }

    /** The call was refused, and for this reason. */
    void refused(String call, WagerQuiz quiz, long got, long reason) {
        due(call, got, REFUSED);
        due(call + ": the reason", quiz.count(11), reason);
    }

    void finish() {
        System.out.println(right + " answers as due, " + wrong + " not");
        if (wrong > 0 || right == 0) {
            System.exit(1);
        }
    }
}

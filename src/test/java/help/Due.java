/** Counts the answers that are not as due, and tells them. */
final class Due {
    static final int UNKNOWN = -1, OUTSIDE = -2, STATE = -3, FULL = -4, NO = -5, NONE = -6, OPEN = -7;

    private int wrong;
    private int asked;

    void is(String call, int got, int want) {
        asked++;
        if (got != want) {
            wrong++;
            StackTraceElement from = new Throwable().getStackTrace()[1];
            System.out.println(from.getMethodName() + ":" + from.getLineNumber() + ": " + call + " answered " + got
                    + ", due is " + want);
        }
    }

    void is(String what, boolean so) {
        is(what, so ? 1 : 0, 1);
    }

    void close() {
        System.out.println(wrong == 0 ? asked + " answers are as due" : wrong + " answers are not as due");
        if (wrong != 0) {
            System.exit(1);
        }
    }
}

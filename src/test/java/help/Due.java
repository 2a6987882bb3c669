/** Counts the answers that are not as due, and tells them. */
final class Due {
    static final int UNKNOWN = -1, OUTSIDE = -2, STATE = -3, FULL = -4, NO = -5, NONE = -6, OPEN = -7;

    private int wrong;
    private int asked;

    void is(String call, int got, int want) {
        asked++;
        if (got != want) {
            wrong++;
            System.out.println(place() + ": " + call + " answered " + got + ", due is " + want);
        }
    }

    void is(String what, boolean so) {
        is(what, so ? 1 : 0, 1);
    }

    /** Where the test asks, not where a helper does. */
    private static String place() {
        for (StackTraceElement e : new Throwable().getStackTrace()) {
            if (e.getClassName().endsWith("Test")) {
                return e.getMethodName() + ":" + e.getLineNumber();
            }
        }
        return "?";
    }

    void close() {
        System.out.println(wrong == 0 ? asked + " answers are as due" : wrong + " answers are not as due");
        if (wrong != 0) {
            System.exit(1);
        }
    }
}

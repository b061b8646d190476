/** Counts the answers that are not as due; a test ends with exit code 1 if there was one. */
final class Check {
    /** A call that may throw. */
    interface Call {
        int answer();
    }

    static final int BAD = -100001, FULL = -100002, NONE = -100003;

    private int wrong;

    void due(String call, int got, int want) {
        if (got != want) {
            tell(call + " answered " + got + ", due is " + want);
        }
    }

    void due(String call, String got, String want) {
        if (!got.equals(want)) {
            tell(call + " answered\n" + got + "\ndue is\n" + want);
        }
    }

    void isTrue(String claim, boolean holds) {
        if (!holds) {
            tell("not so: " + claim);
        }
    }

    void throwsState(String call, Call it) {
        String got = outcome(it);
        if (!got.equals("throws.IllegalStateException")) {
            tell(call + " answered " + got + ", due is throws.IllegalStateException");
        }
    }

    /** A call's answer, or throws. and the name of what it throws. */
    static String outcome(Call it) {
        try {
            return Integer.toString(it.answer());
        } catch (RuntimeException e) {
            return "throws." + e.getClass().getSimpleName();
        }
    }

    void end() {
        System.out.println(wrong == 0 ? "all answers are as due" : wrong + " answers are not as due");
        if (wrong != 0) {
            System.exit(1);
        }
    }

    private void tell(String what) {
        wrong++;
        System.out.println(what);
    }
}

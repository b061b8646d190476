import java.lang.reflect.InvocationTargetException;
import java.lang.reflect.Method;
import java.util.Arrays;
import java.util.Comparator;

/** Runs the tests of a class and counts the answers that are not as due; exit code 1 if there was one. */
final class Check {
    /** A call that may throw. */
    interface Call {
        int answer();
    }

    static final int BAD = -100001, FULL = -100002, NONE = -100003;

    private int wrong;
    /** The test that runs just now. */
    private String test = "";

    /** Numbers that lie just outside the bounds, and as far outside as an int can. */
    static int[] beyond(int least, int most) {
        return new int[] {least - 1, most + 1, Integer.MIN_VALUE, Integer.MAX_VALUE};
    }

    /**
     * Runs every method without parameters whose name begins with "promise": found by name, so that
     * none can be written and then forgotten.
     */
    void runAll(Class<?> tests) {
        Method[] methods = tests.getDeclaredMethods();
        Arrays.sort(methods, Comparator.comparing(Method::getName));
        int ran = 0;
        for (Method method : methods) {
            if (method.getName().startsWith("promise") && method.getParameterCount() == 0) {
                runOne(method);
                ran++;
            }
        }
        isTrue("there is a test", ran > 0);
        System.out.println(ran + " tests");
        end();
    }

    private void runOne(Method method) {
        test = method.getName();
        try {
            method.setAccessible(true);
            method.invoke(null);
        } catch (InvocationTargetException e) {
            tell("ended by " + e.getCause());
        } catch (IllegalAccessException e) {
            tell("cannot be run: " + e);
        }
        test = "";
    }

    void due(String call, int got, int want) {
        if (got != want) {
            tell(call + " answered " + got + ", due is " + want);
        }
    }

    void due(String call, String got, String want) {
        if (!got.equals(want)) {
            tell(call + " answered\n" + got + "\ndue is\n" + want);
        }
    }

    void bad(String call, int got) {
        due(call, got, BAD);
    }

    void isTrue(String claim, boolean holds) {
        if (!holds) {
            tell("not so: " + claim);
        }
    }

    void throwsState(String call, Call it) {
        String got = outcome(it);
        if (!got.equals("throws.IllegalStateException")) {
            tell(call + " answered " + got + ", due is throws.IllegalStateException");
        }
    }

    /** A call's answer, or throws. and the name of what it throws. */
    static String outcome(Call it) {
        try {
            return Integer.toString(it.answer());
        } catch (RuntimeException e) {
            return "throws." + e.getClass().getSimpleName();
        }
    }

    void end() {
        System.out.println(wrong == 0 ? "all answers are as due" : wrong + " answers are not as due");
        if (wrong != 0) {
            System.exit(1);
        }
    }

    private void tell(String what) {
        wrong++;
        System.out.println(test.isEmpty() ? what : test + ": " + what);
    }
}

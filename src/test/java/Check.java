import java.lang.reflect.InvocationTargetException;
import java.lang.reflect.Method;
import java.lang.reflect.Modifier;
import java.util.Arrays;
import java.util.Comparator;
import java.util.function.LongSupplier;

/** Counts the answers that are not as due, and ends a test with 1 if there were some. */
final class Check {
    private static int asked = 0;
    private static int wrong = 0;
    private static String running = "";

    private Check() {
    }

    /**
     * Runs each static method of the class that takes and answers nothing, by name, and ends. A test can't be
     * forgotten so, and one that asks nothing is wrong.
     */
    static void runAll(Class<?> tests) {
        Method[] methods = tests.getDeclaredMethods();
        Arrays.sort(methods, Comparator.comparing(Method::getName));
        int ran = 0;
        for (Method m : methods) {
            if (Modifier.isStatic(m.getModifiers()) && m.getParameterCount() == 0
                    && m.getReturnType() == void.class && !m.isSynthetic()) {
                run(m);
                ran++;
            }
        }
        if (ran == 0) {
            report(tests.getName() + " has no tests");
        }
        System.out.print(ran + " tests, ");
        end();
    }

    private static void run(Method test) {
        running = test.getName() + ": ";
        int askedBefore = asked;
        try {
            test.setAccessible(true);
            test.invoke(null);
        } catch (InvocationTargetException e) {
            report("threw " + e.getCause());
        } catch (IllegalAccessException e) {
            report("can't be run");
        }
        if (asked == askedBefore) {
            report("asked nothing");
        }
        running = "";
    }

    private static void report(String what) {
        wrong++;
        System.out.println(running + what);
    }

    static void due(String call, long got, long want) {
        asked++;
        if (got != want) {
            report(call + " answered " + got + ", due is " + want);
        }
    }

    static void due(String call, boolean got, boolean want) {
        due(call, got ? 1L : 0L, want ? 1L : 0L);
    }

    /** Asks for exactly this class: a class below it isn't what the document names. */
    static void dueThrow(String call, LongSupplier run, Class<? extends RuntimeException> want) {
        asked++;
        String got;
        try {
            got = "answered " + run.getAsLong();
        } catch (RuntimeException thrown) {
            if (thrown.getClass() == want) {
                return;
            }
            got = "threw " + thrown.getClass().getName();
        }
        report(call + " " + got + ", due is throws." + want.getSimpleName());
    }

    /** The states of the first steps, one digit each from step 0 on, as state() tells them. */
    static void dueStates(String when, EarlyCut x, String want) {
        dueText(when + ": states", states(x, want.length()), want);
    }

    /** The causes of the first steps, one sign each from step 0 on, '-' for NONE. */
    static void dueCauses(String when, EarlyCut x, String want) {
        StringBuilder got = new StringBuilder();
        for (int n = 0; n < want.length(); n++) {
            int cause = x.cause(n);
            got.append(cause == EarlyCut.NONE ? "-" : String.valueOf(cause));
        }
        dueText(when + ": causes", got.toString(), want);
    }

    /** SAVED, CUT, HALF, BLOCKED, MARKED, as counted() tells them. */
    static void dueCounts(String when, EarlyCut x, int... want) {
        for (int what = 0; what < want.length; what++) {
            due(when + ": counted(" + what + ")", x.counted(what), want[what]);
        }
    }

    static void dueText(String what, String got, String want) {
        asked++;
        if (!got.equals(want)) {
            report(what + " are " + got + ", due are " + want);
        }
    }

    private static String states(EarlyCut x, int steps) {
        StringBuilder got = new StringBuilder();
        for (int n = 0; n < steps; n++) {
            got.append(x.state(n));
        }
        return got.toString();
    }

    static boolean isWrong() {
        return wrong != 0;
    }

    static void end() {
        System.out.println(asked + " answers, " + wrong + " not as due");
        if (wrong != 0) {
            System.exit(1);
        }
    }
}

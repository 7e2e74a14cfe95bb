/** Counts the answers that are not as due; a test's main ends with finish(). */
final class Checks {
    interface Call {
        long answer();
    }

    private static int made = 0;
    private static int wrong = 0;

    private Checks() {
    }

    static void due(String what, long got, long want) {
        made++;
        if (got != want) {
            wrong++;
            System.out.println(what + " answered " + got + ", due is " + want);
        }
    }

    static void due(String what, boolean got, boolean want) {
        due(what, got ? 1 : 0, want ? 1 : 0);
    }

    static void holds(String what, boolean held) {
        made++;
        if (!held) {
            wrong++;
            System.out.println("does not hold: " + what);
        }
    }

    static void throwsArgument(String what, Call call) {
        throwsDue(what, call, IllegalArgumentException.class);
    }

    static void throwsState(String what, Call call) {
        throwsDue(what, call, IllegalStateException.class);
    }

    static void throwsIndex(String what, Call call) {
        throwsDue(what, call, IndexOutOfBoundsException.class);
    }

    /** The class is compared exactly: an exception of the machine may be a kind of the one that is due. */
    private static void throwsDue(String what, Call call, Class<? extends RuntimeException> want) {
        made++;
        String got;
        try {
            got = "answered " + call.answer();
        } catch (RuntimeException e) {
            if (e.getClass() == want) {
                return;
            }
            got = "threw " + e;
        }
        wrong++;
        System.out.println(what + " " + got + ", due is " + want.getSimpleName());
    }

    static void finish(String test) {
        System.out.println(test + ": " + made + " checks, " + wrong + " wrong");
        if (wrong != 0 || made == 0) {
            System.exit(1);
        }
    }
}

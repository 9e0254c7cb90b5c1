/** Counts and prints answers that are not as due. */
final class Check {
    interface Call {
        long answer();
    }

    private static int checked = 0;
    private static int wrong = 0;

    private Check() {
    }

    static void equal(String what, long due, long got) {
        checked++;
        if (due != got) {
            complain(what + " answered " + got + ", due is " + due);
        }
    }

    static void equal(String what, String due, String got) {
        checked++;
        if (!due.equals(got)) {
            complain(what + " answered\n" + got + "\ndue is\n" + due);
        }
    }

    static void isTrue(String what, boolean got) {
        equal(what, 1, got ? 1 : 0);
    }

    static void isFalse(String what, boolean got) {
        equal(what, 0, got ? 1 : 0);
    }

    /** The call must throw just this exception, not one of its subclasses. */
    static void fails(String what, Class<? extends RuntimeException> due, Call call) {
        checked++;
        String got = outcomeOf(call);
        if (!got.equals(due.getName())) {
            complain(what + " answered " + got + ", due is " + due.getName());
        }
    }

    /** The answer of a call, or the name of the exception that it throws. */
    static String outcomeOf(Call call) {
        try {
            return Long.toString(call.answer());
        } catch (RuntimeException e) {
            return e.getClass().getName();
        }
    }

    static void complain(String text) {
        wrong++;
        System.out.println(text);
    }

    /** Ends the program, with exit code 1 if an answer was wrong. */
    static void end(String test) {
        System.out.println(test + ": " + checked + " checks, " + wrong + " wrong");
        if (wrong != 0 || checked == 0) {
            System.exit(1);
        }
    }
}

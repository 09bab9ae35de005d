/** Counts the checks of one test program and tells those that are wrong. */
final class Check {
    interface Call {
        Object answer();
    }

    private static int right = 0;
    private static int wrong = 0;

    private Check() {
    }

    static void due(String what, Object got, Object want) {
        if (want.equals(got)) {
            right++;
        } else {
            wrong++;
            System.out.println(what + " answered " + got + ", due is " + want);
        }
    }

    /** The very class counts: a subclass would mean that the machine threw. */
    static void fails(String what, Class<? extends RuntimeException> want, Call call) {
        due(what, answerOf(call), "throws." + want.getSimpleName());
    }

    /** The answer of a call, or "throws." and the name of the exception's class. */
    static Object answerOf(Call call) {
        try {
            return call.answer();
        } catch (Throwable thrown) {
            return "throws." + thrown.getClass().getSimpleName();
        }
    }

    static void end(String test) {
        System.out.println(test + ": " + right + " checks right, " + wrong + " wrong");
        if (wrong != 0 || right == 0) {
            System.exit(1);
        }
    }
}

/** Counts the checks of one test program and tells those that are wrong. */
final class Check {
    interface Call {
        Object answer();
    }

    private static int right = 0;
    private static int wrong = 0;
    private static int sentences = 0;
    private static String sentence = "";

    private Check() {
    }

    /** A test of its own for one sentence of the document; it must check something, and not break off. */
    static void sentence(String words, Runnable test) {
        sentences++;
        sentence = words;
        int before = right + wrong;
        try {
            test.run();
        } catch (RuntimeException thrown) {
            due("broken off", thrown, "nothing");
        }
        due("checks made", right + wrong > before, true);
        sentence = "";
    }

    static void due(String what, Object got, Object want) {
        if (want.equals(got)) {
            right++;
        } else {
            wrong++;
            String of = sentence.isEmpty() ? "" : " [" + sentence + "]";
            System.out.println(what + " answered " + got + ", due is " + want + of);
        }
    }

    /** The very class counts: a subclass would mean that the machine threw. */
    static void fails(String what, Class<? extends RuntimeException> want, Call call) {
        due(what, answerOf(call), "throws." + want.getSimpleName());
    }

    static void outOfBounds(String what, Call call) {
        fails(what, IndexOutOfBoundsException.class, call);
    }

    static void badArgument(String what, Call call) {
        fails(what, IllegalArgumentException.class, call);
    }

    static void badState(String what, Call call) {
        fails(what, IllegalStateException.class, call);
    }

    /** The answer of a call, or "throws." and the name of the exception's class. */
    static Object answerOf(Call call) {
        try {
            return call.answer();
        } catch (Throwable thrown) {
            return "throws." + thrown.getClass().getSimpleName();
        }
    }

    static void end(String test) {
        String of = sentences == 0 ? "" : sentences + " sentences, ";
        System.out.println(test + ": " + of + right + " checks right, " + wrong + " wrong");
        if (wrong != 0 || right == 0) {
            System.exit(1);
        }
    }
}

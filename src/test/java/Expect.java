/** Counts and prints what is not as due; every test class ends with finish(). */
final class Expect {
    interface Call {
        Object run();
    }

    private static final int LONGEST_TEST_MILLISECONDS = 300_000;

    private static int checked = 0;
    private static int wrong = 0;
    private static String sentence = "";

    static {
        Thread watch = new Thread(Expect::endLateTest);
        watch.setDaemon(true);
        watch.start();
    }

    private Expect() {
    }

    // A call that never ends would otherwise keep .ci/run from telling that a test fails.
    private static void endLateTest() {
        try {
            Thread.sleep(LONGEST_TEST_MILLISECONDS);
        } catch (InterruptedException e) {
            return;
        }
        System.out.println(sentence + "a call does not end");
        Runtime.getRuntime().halt(1);
    }

    /** What is not as due from now on is printed with this sentence before it. */
    static void begin(String newSentence) {
        sentence = newSentence;
    }

    static int checks() {
        return checked;
    }

    static void same(String what, Object due, Object got) {
        checked++;
        if (!due.equals(got)) {
            wrong++;
            System.out.println(sentence + what + ": answered " + got + ", due is " + due);
        }
    }

    static void throwing(String what, Class<? extends RuntimeException> due, Call call) {
        same(what, due.getSimpleName(), answer(call));
    }

    static void noPlace(String what, Call call) {
        throwing(what, IndexOutOfBoundsException.class, call);
    }

    static void badArgument(String what, Call call) {
        throwing(what, IllegalArgumentException.class, call);
    }

    static void badState(String what, Call call) {
        throwing(what, IllegalStateException.class, call);
    }

    static void nothingThere(String what, Call call) {
        throwing(what, java.util.NoSuchElementException.class, call);
    }

    static void noException(String what, Call call) {
        Object answer = answer(call);
        same(what + " answered " + answer, false, answer.toString().endsWith("Exception"));
    }

    /** The answer of a call, or the name of the exception that it throws. */
    static Object answer(Call call) {
        try {
            return call.run();
        } catch (RuntimeException e) {
            return e.getClass().getSimpleName();
        }
    }

    static boolean hasFailed() {
        return wrong > 0;
    }

    static void finish(String name) {
        System.out.println(name + ": " + checked + " checks, " + wrong + " wrong");
        if (wrong > 0) {
            System.exit(1);
        }
    }
}

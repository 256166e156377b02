/** Counts what was as due and prints what was not; a test's main ends with close(). */
final class Check {
    interface Act {
        void run();
    }

    static final Class<? extends RuntimeException> INDEX = IndexOutOfBoundsException.class;
    static final Class<? extends RuntimeException> ARGUMENT = IllegalArgumentException.class;
    static final Class<? extends RuntimeException> STATE = IllegalStateException.class;

    private static int right = 0;
    private static int wrong = 0;

    private Check() {
    }

    static void is(String what, long want, long got) {
        count(want == got, what + ": due is " + want + ", answered " + got);
    }

    static void is(String what, boolean want, boolean got) {
        count(want == got, what + ": due is " + want + ", answered " + got);
    }

    static void is(String what, String want, String got) {
        count(want.equals(got), what + ": due is " + want + ", answered " + got);
    }

    /** The exception must be of this very class, not of one below it, and be thrown by the bench's own words. */
    static void refuses(String what, Class<? extends RuntimeException> want, Act act) {
        String got = "nothing";
        try {
            act.run();
        } catch (RuntimeException e) {
            got = nameOf(e);
        }
        is(what + " throws", want.getSimpleName(), got);
    }

    /** Of an exception that the library threw the name says so: the bench must look ahead of such calls. */
    static String nameOf(RuntimeException e) {
        String name = e.getClass().getSimpleName();
        StackTraceElement[] trace = e.getStackTrace();
        boolean isOwn = trace.length > 0 && trace[0].getClassName().matches("(Relators|Told)Bench");
        return isOwn ? name : name + " by the library";
    }

    static void close() {
        System.out.println(right + " answers as due, " + wrong + " not");
        if (wrong != 0 || right == 0) {
            System.exit(1);
        }
    }

    private static void count(boolean isRight, String complaint) {
        if (isRight) {
            right++;
        } else {
            wrong++;
            System.out.println(complaint);
        }
    }
}

import java.util.List;

/** Counts what was as due and prints what was not, by the promise that it is of; a test's main ends with close(). */
final class Check {
    interface Act {
        void run();
    }

    static final Class<? extends RuntimeException> INDEX = IndexOutOfBoundsException.class;
    static final Class<? extends RuntimeException> ARGUMENT = IllegalArgumentException.class;
    static final Class<? extends RuntimeException> STATE = IllegalStateException.class;

    /** The promises of ../shared/DOC.md in their order, from 1. */
    static final List<String> PROMISES = List.of("A new object", "fund", "scheme", "claim", "sample", "learn",
            "publish", "plan", "know", "admit", "deal", "file", "amend", "extend", "choose", "help", "judge", "settle",
            "work", "tell", "fire", "award", "pass", "covers", "bars", "first", "firstAnew", "due", "sees", "ofSuit",
            "ofClaim", "got", "ofFirm", "all");

    private static String promise = "";
    private static int right = 0;
    private static int wrong = 0;

    private Check() {
    }

    /** Names the promise that all is of that is checked from here on. */
    static void promise(String name) {
        int number = PROMISES.indexOf(name) + 1;
        if (number == 0) {
            throw new IllegalArgumentException("no promise is named " + name);
        }
        promise = "promise " + number + ", " + name + ": ";
    }

    static void is(String what, long want, long got) {
        count(want == got, what + ": due is " + want + ", answered " + got);
    }

    static void is(String what, boolean want, boolean got) {
        count(want == got, what + ": due is " + want + ", answered " + got);
    }

    static void is(String what, String want, String got) {
        count(want.equals(got), what + ": due is " + want + ", answered " + got);
    }

    /** The exception must be of this very class, not of one below it, and be thrown by the bench's own words. */
    static void refuses(String what, Class<? extends RuntimeException> want, Act act) {
        is(what + " throws", want.getSimpleName(), thrownBy(act));
    }

    static void passes(String what, Act act) {
        is(what + " throws", "nothing", thrownBy(act));
    }

    static String thrownBy(Act act) {
        try {
            act.run();
        } catch (RuntimeException e) {
            return nameOf(e);
        }
        return "nothing";
    }

    /** Of an exception that the library threw the name says so: the bench must look ahead of such calls. */
    static String nameOf(RuntimeException e) {
        String name = e.getClass().getSimpleName();
        StackTraceElement[] trace = e.getStackTrace();
        boolean isOwn = trace.length > 0 && trace[0].getClassName().matches("(Relators|Told)Bench");
        return isOwn ? name : name + " by the library";
    }

    static void close() {
        System.out.println(right + " answers as due, " + wrong + " not");
        if (wrong != 0 || right == 0) {
            System.exit(1);
        }
    }

    private static void count(boolean isRight, String complaint) {
        if (isRight) {
            right++;
        } else {
            wrong++;
            System.out.println(promise + complaint);
        }
    }
}

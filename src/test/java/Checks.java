/** Counts and tells the answers that are not as due; a test's main method ends with end(). */
final class Checks {
    interface Call {
        void run();
    }

    private static int done = 0;
    private static int wrong = 0;
    private static String sentence = "";

    private Checks() {
    }

    /** The sentence of the document that the answers from now on are due to; it is told with a wrong one. */
    static void about(String text) {
        sentence = text;
    }

    static int done() {
        return done;
    }

    static void due(String what, long got, long want) {
        done++;
        if (got != want) {
            tell(what + " answered " + got + ", due is " + want);
        }
    }

    static void due(String what, String got, String want) {
        done++;
        if (!got.equals(want)) {
            tell(what + " answered " + got + ", due is " + want);
        }
    }

    static void due(String what, boolean is) {
        done++;
        if (!is) {
            tell("not so: " + what);
        }
    }

    /** A refused call: the exception, and everything that can be looked at is as it was before. */
    static void dueRefused(String what, Class<? extends RuntimeException> want, ShortenPrograms x, Call call) {
        String before = Runs.textOfAll(x);
        dueThrow(what, want, call);
        due("all that can be seen after the refused " + what, Runs.textOfAll(x), before);
    }

    /** The class itself, not one below it: what the machine throws is never due. */
    static void dueThrow(String what, Class<? extends RuntimeException> want, Call call) {
        due(what, outcome(call), "throws." + want.getSimpleName());
    }

    private static String outcome(Call call) {
        try {
            call.run();
        } catch (RuntimeException e) {
            return "throws." + e.getClass().getSimpleName();
        }
        return "nothing thrown";
    }

    private static void tell(String text) {
        wrong++;
        if (wrong <= 20) {
            System.out.println(sentence.isEmpty() ? text : text + " [" + sentence + "]");
        }
    }

    static int wrong() {
        return wrong;
    }

    static void end(String name) {
        System.out.println(name + ": " + done + " answers looked at, " + wrong + " not as due");
        if (wrong != 0) {
            System.exit(1);
        }
    }
}

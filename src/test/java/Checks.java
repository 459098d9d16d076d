/** What the tests share: it prints each answer that isn't the one that is due, and ends the run. */
final class Checks {
    private static int looked = 0;
    private static int wrong = 0;

    private Checks() {
    }

    interface Call {
        Object answer();
    }

    /** The answer as a text; what is thrown as throws.Name. */
    static String outcome(Call call) {
        try {
            return text(call.answer());
        } catch (RuntimeException e) {
            return "throws." + e.getClass().getSimpleName();
        }
    }

    /** A boolean counts 1 or 0, as in the issues. */
    private static String text(Object answer) {
        return answer instanceof Boolean ? ((Boolean) answer ? "1" : "0") : String.valueOf(answer);
    }

    static void due(String what, Object want, Call call) {
        String got = outcome(call);
        looked++;
        if (!got.equals(text(want))) {
            wrong++;
            System.out.println(what + " answered " + got + ", due is " + text(want));
        }
    }

    static void finish() {
        System.out.println(looked + " answers, " + wrong + " not as due");
        if (wrong != 0 || looked == 0) {
            System.exit(1);
        }
    }
}

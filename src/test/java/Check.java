/** Counts and prints the answers that are not due. */
final class Check {
    interface Call {
        long answer();
    }

    private static int wrong = 0;

    private Check() {
    }

    static void due(String what, long got, long want) {
        if (got != want) {
            wrong++;
            System.out.println(what + " answered " + got + ", due is " + want);
        }
    }

    static void dueText(String what, String got, String want) {
        if (!got.equals(want)) {
            wrong++;
            System.out.println(what + " answered " + got + ", due is " + want);
        }
    }

    /** What a call answers, or the name of what it throws, as text. */
    static String answerOf(Call call) {
        try {
            return Long.toString(call.answer());
        } catch (RuntimeException e) {
            return e.getClass().getSimpleName();
        }
    }

    static void argument(String what, Call call) {
        dueText(what, answerOf(call), "IllegalArgumentException");
    }

    static void state(String what, Call call) {
        dueText(what, answerOf(call), "IllegalStateException");
    }

    static void index(String what, Call call) {
        dueText(what, answerOf(call), "IndexOutOfBoundsException");
    }

    static void end(String name) {
        System.out.println(name + (wrong == 0 ? ": all answers are as due" : ": " + wrong + " answers are not as due"));
        if (wrong != 0) {
            System.exit(1);
        }
    }
}

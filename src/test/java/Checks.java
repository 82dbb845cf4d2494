/** Counts right and wrong answers; an answer is a number, or "throws" with the exception's name. */
final class Checks {
    /** One call of the program. */
    interface Call {
        long run();
    }

    private int right;
    private int wrong;

    static String answerOf(Call call) {
        try {
            return Long.toString(call.run());
        } catch (RuntimeException thrown) {
            return "throws " + thrown.getClass().getSimpleName();
        }
    }

    void due(String what, String want, String got) {
        if (want.equals(got)) {
            right++;
        } else {
            wrong++;
            System.out.println(what + " answered " + got + ", due is " + want);
        }
    }

    void due(String what, long want, Call call) {
        due(what, Long.toString(want), answerOf(call));
    }

    void index(String what, Call call) {
        due(what, "throws IndexOutOfBoundsException", answerOf(call));
    }

    void argument(String what, Call call) {
        due(what, "throws IllegalArgumentException", answerOf(call));
    }

    void state(String what, Call call) {
        due(what, "throws IllegalStateException", answerOf(call));
    }

    /** Prints the counts and ends the program. */
    void close(String name) {
        System.out.println(name + ": " + right + " passed, " + wrong + " failed");
        System.exit(wrong == 0 ? 0 : 1);
    }
}

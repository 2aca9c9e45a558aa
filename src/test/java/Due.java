/** Compares answers with those that are due, and tells each that is another one with its line. */
final class Due {
    /** A call; a boolean answer counts 1 or 0. */
    interface Call {
        long made();
    }

    private int compared;
    private int wrong;

    /** The answer as text, or what the call throws. */
    static String answerOf(Call call) {
        try {
            return Long.toString(call.made());
        } catch (RuntimeException thrown) {
            return "throws." + thrown.getClass().getSimpleName();
        }
    }

    void is(long due, Call call) {
        compare(Long.toString(due), answerOf(call));
    }

    void is(boolean due, Call call) {
        is(due ? 1 : 0, call);
    }

    void range(Call call) {
        compare("throws.IndexOutOfBoundsException", answerOf(call));
    }

    void argument(Call call) {
        compare("throws.IllegalArgumentException", answerOf(call));
    }

    void state(Call call) {
        compare("throws.IllegalStateException", answerOf(call));
    }

    void missing(Call call) {
        compare("throws.NoSuchElementException", answerOf(call));
    }

    void unsupported(Call call) {
        compare("throws.UnsupportedOperationException", answerOf(call));
    }

    void arithmetic(Call call) {
        compare("throws.ArithmeticException", answerOf(call));
    }

    void compare(String due, String got) {
        compared++;
        if (!due.equals(got)) {
            wrong++;
            System.out.println(place() + ": answered " + got + ", due is " + due);
        }
    }

    void end() {
        System.out.println(compared + " answers compared, " + wrong + " not as due");
        if (wrong != 0 || compared == 0) {
            System.exit(1);
        }
    }

    private static String place() {
        return StackWalker.getInstance().walk(frames -> frames
                .filter(frame -> !frame.getClassName().equals("Due") && !frame.getClassName().equals("Tried"))
                .findFirst()
                .map(frame -> frame.getFileName() + ":" + frame.getLineNumber())
                .orElse("?"));
    }
}

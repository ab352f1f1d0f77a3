/** Counts and prints answers that are not as due. */
final class Check {
    /** A call whose answer may be an exception. */
    interface Call {
        Object run();
    }

    private int wrong;
    private int checked;

    /** Returns the answer as a text, "throws.X" if the call threw the exception X. */
    static String answerOf(Call call) {
        try {
            return String.valueOf(call.run());
        } catch (RuntimeException e) {
            return "throws." + e.getClass().getSimpleName();
        }
    }

    void due(String what, Object want, Call call) {
        checked++;
        String got = answerOf(call);
        if (!got.equals(String.valueOf(want))) {
            wrong++;
            System.out.println(what + " answered " + got + ", due is " + want);
        }
    }

    void illegalArgument(String what, Call call) {
        due(what, "throws.IllegalArgumentException", call);
    }

    void illegalState(String what, Call call) {
        due(what, "throws.IllegalStateException", call);
    }

    void noSuchElement(String what, Call call) {
        due(what, "throws.NoSuchElementException", call);
    }

    void outOfBounds(String what, Call call) {
        due(what, "throws.IndexOutOfBoundsException", call);
    }

    void unsupported(String what, Call call) {
        due(what, "throws.UnsupportedOperationException", call);
    }

    void arithmetic(String what, Call call) {
        due(what, "throws.ArithmeticException", call);
    }

    /** Prints how many were wrong; ends the program with exit code 1 if there was one. */
    void end() {
        System.out.println(wrong == 0 ? checked + " answers are as due" : wrong + " of " + checked + " are wrong");
        if (wrong != 0) {
            System.exit(1);
        }
    }
}

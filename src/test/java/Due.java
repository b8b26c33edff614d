/** Compares answers with those that are due, and ends a test. */
final class Due {
    /** One call of the class; a test hands it over, so that what it throws can be seen. */
    interface Call {
        long answer();
    }

    private int wrong;
    private int asked;

    void is(String call, long got, long want) {
        asked++;
        if (got != want) {
            tell(call + " answered " + got + ", due is " + want);
        }
    }

    /** The exception must be of exactly this class: the machine's own ones are classes below it. */
    void refused(String call, Class<? extends RuntimeException> kind, Call made) {
        asked++;
        String got = outcome(made);
        if (!got.equals(kind.getName())) {
            tell(call + " answered " + got + ", due is " + kind.getName());
        }
    }

    void noMethod(String call, Call made) {
        refused(call, IndexOutOfBoundsException.class, made);
    }

    void badArgument(String call, Call made) {
        refused(call, IllegalArgumentException.class, made);
    }

    /** The answer, or the class of what was thrown, as a text. */
    static String outcome(Call made) {
        try {
            return Long.toString(made.answer());
        } catch (RuntimeException thrown) {
            return thrown.getClass().getName();
        }
    }

    void tell(String fault) {
        wrong++;
        System.out.println(fault);
    }

    boolean isClean() {
        return wrong == 0;
    }

    void end() {
        System.out.println(asked + " answers asked, " + wrong + " wrong");
        if (wrong != 0 || asked == 0) {
            System.exit(1);
        }
    }
}

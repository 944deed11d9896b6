/** Compares answers with those that are due, prints each wrong one, and ends with exit code 1 if there was one. */
final class Due {
    /** One call whose answer is looked at. */
    interface Call {
        Object answer();
    }

    private int wrong;

    void is(String name, Object want, Call call) {
        Object got = answerOf(call);
        if (!want.equals(got)) {
            wrong++;
            System.out.println(name + " answered " + got + ", due is " + want);
        }
    }

    /** The call throws IllegalArgumentException. */
    void refuses(String name, Call call) {
        is(name, "throws.IllegalArgumentException", call);
    }

    /** The call throws IllegalStateException. */
    void fails(String name, Call call) {
        is(name, "throws.IllegalStateException", call);
    }

    /** The call throws IndexOutOfBoundsException itself, not the machine's class below it. */
    void misses(String name, Call call) {
        is(name, "throws.IndexOutOfBoundsException", call);
    }

    void end() {
        if (wrong != 0) {
            System.out.println(wrong + " answers are not as due");
            System.exit(1);
        }
    }

    static Object answerOf(Call call) {
        try {
            return call.answer();
        } catch (RuntimeException e) {
            return "throws." + e.getClass().getSimpleName();
        }
    }
}

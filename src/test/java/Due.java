/** Compares answers with those that are due, prints each wrong one, and ends with exit code 1 if there was one. */
final class Due {
    static final String REFUSED = "throws.IllegalArgumentException";
    static final String FAILED = "throws.IllegalStateException";
    static final String MISSED = "throws.IndexOutOfBoundsException";

    /** Numbers that are wrong for every argument of the face that has bounds. */
    static final int[] FAR = {-1, -4096, 1025 * 4096, Integer.MIN_VALUE, Integer.MAX_VALUE};

    /** One call whose answer is looked at. */
    interface Call {
        Object answer();
    }

    /** Makes an object and brings it into some state: always the same one. */
    interface Setup {
        GroupBitmaps volume();
    }

    /** One call on an object that is made for it. */
    interface Use {
        Object on(GroupBitmaps x);
    }

    private int wrong;

    void is(String name, Object want, Call call) {
        Object got = answerOf(call);
        if (!want.equals(got)) {
            wrong++;
            System.out.println(name + " answered " + got + ", due is " + want);
        }
    }

    /** The call throws IllegalArgumentException. */
    void refuses(String name, Call call) {
        is(name, REFUSED, call);
    }

    /** The call throws IllegalStateException. */
    void fails(String name, Call call) {
        is(name, FAILED, call);
    }

    /** The call throws IndexOutOfBoundsException itself, not the machine's class below it. */
    void misses(String name, Call call) {
        is(name, MISSED, call);
    }

    /** The call throws IllegalArgumentException, and all that can be seen stays as it was. */
    void refusesWhole(String name, Setup setup, Use use) {
        changesNothing(name, REFUSED, setup, use);
    }

    /** The call throws IllegalStateException, and all that can be seen stays as it was. */
    void failsWhole(String name, Setup setup, Use use) {
        changesNothing(name, FAILED, setup, use);
    }

    void changesNothing(String name, Object want, Setup setup, Use use) {
        GroupBitmaps x = setup.volume();
        is(name, want, () -> use.on(x));
        is("what is seen behind " + name, Seen.of(setup.volume()), () -> Seen.of(x));
    }

    void end() {
        if (wrong != 0) {
            System.out.println(wrong + " answers are not as due");
            System.exit(1);
        }
    }

    static Object answerOf(Call call) {
        try {
            return call.answer();
        } catch (RuntimeException e) {
            return "throws." + e.getClass().getSimpleName();
        }
    }
}

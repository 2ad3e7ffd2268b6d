import java.util.NoSuchElementException;

/** What the tests ask of an answer; a test fails with the first one that is not as due. */
final class Check {
    static final Class<IndexOutOfBoundsException> OUT = IndexOutOfBoundsException.class;
    static final Class<NoSuchElementException> NO_SUCH = NoSuchElementException.class;
    static final Class<IllegalArgumentException> WRONG = IllegalArgumentException.class;
    static final Class<IllegalStateException> STATE = IllegalStateException.class;

    interface Call {
        void run();
    }

    private Check() {}

    static void same(String what, long got, long due) {
        if (got != due) {
            throw new AssertionError(what + " answered " + got + ", due is " + due);
        }
    }

    static void same(String what, boolean got, boolean due) {
        if (got != due) {
            throw new AssertionError(what + " answered " + got + ", due is " + due);
        }
    }

    static void same(String what, String got, String due) {
        if (!got.equals(due)) {
            throw new AssertionError(what + " is " + got + ", due is " + due);
        }
    }

    static void fails(String what, Class<? extends RuntimeException> due, Call call) {
        Class<?> got = thrownBy(call);
        if (got != due) {
            throw new AssertionError(what + " threw " + got + ", due is " + due);
        }
    }

    /** The class of what a call throws, null if it throws nothing. */
    static Class<?> thrownBy(Call call) {
        try {
            call.run();
            return null;
        } catch (RuntimeException e) {
            return e.getClass();
        }
    }
}

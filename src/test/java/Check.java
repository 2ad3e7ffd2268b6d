/** What the tests ask of an answer; a test fails with the first one that is not as due. */
final class Check {
    interface Call {
        void run();
    }

    private Check() {}

    static void same(String what, long got, long due) {
        if (got != due) {
            throw new AssertionError(what + " answered " + got + ", due is " + due);
        }
    }

    static void same(String what, boolean got, boolean due) {
        if (got != due) {
            throw new AssertionError(what + " answered " + got + ", due is " + due);
        }
    }

    static void fails(String what, Class<? extends RuntimeException> due, Call call) {
        Class<?> got = thrownBy(call);
        if (got != due) {
            throw new AssertionError(what + " threw " + got + ", due is " + due);
        }
    }

    /** The class of what a call throws, null if it throws nothing. */
    static Class<?> thrownBy(Call call) {
        try {
            call.run();
            return null;
        } catch (RuntimeException e) {
            return e.getClass();
        }
    }
}

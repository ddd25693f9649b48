/** What the tests share: they compare answers, tell each wrong one with its line, and end with exit code 1 if there was one. */
final class Check {
    static final Class<IllegalArgumentException> ARGUMENT = IllegalArgumentException.class;
    static final Class<IllegalStateException> STATE = IllegalStateException.class;
    static final Class<IndexOutOfBoundsException> INDEX = IndexOutOfBoundsException.class;

    private static int wrong = 0;

    interface Call {
        void make();
    }

    private Check() {
    }

    static void due(long want, long got) {
        if (want != got) {
            tell("answered " + got + ", due is " + want);
        }
    }

    /** For loops, where the line alone does not say which turn went wrong. */
    static void due(String turn, long want, long got) {
        if (want != got) {
            tell(turn + " answered " + got + ", due is " + want);
        }
    }

    static void due(double want, double got) {
        // Not by ==, which takes -0.0 for 0.0.
        if (Double.compare(want, got) != 0) {
            tell("answered " + got + ", due is " + want);
        }
    }

    /** The call throws just this exception, and changes nothing. */
    static void thrown(Class<? extends RuntimeException> want, PinholeHouse house, Call call) {
        long before = house.digest();
        Class<?> got = thrownBy(call);
        if (got != want) {
            tell("threw " + got + ", due is " + want);
        }
        if (house.digest() != before) {
            tell("changed the house");
        }
    }

    /** What the call throws, null if it throws nothing. */
    static Class<?> thrownBy(Call call) {
        try {
            call.make();
        } catch (RuntimeException e) {
            return e.getClass();
        }
        return null;
    }

    static void wrong(String what) {
        tell(what);
    }

    private static void tell(String what) {
        wrong++;
        StackTraceElement[] stack = new Throwable().getStackTrace();
        System.out.println(stack[2] + ": " + what);
    }

    static void end() {
        if (wrong > 0) {
            System.out.println(wrong + " wrong");
            System.exit(1);
        }
    }
}

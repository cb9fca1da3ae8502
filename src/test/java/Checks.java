/** Runs tests by name, and counts those that passed and failed. */
final class Checks {
    static final Class<IndexOutOfBoundsException> NO_SUCH = IndexOutOfBoundsException.class;
    static final Class<IllegalArgumentException> OUT_OF_RANGE = IllegalArgumentException.class;
    static final Class<IllegalStateException> NOT_NOW = IllegalStateException.class;

    private int passed = 0;
    private int failed = 0;

    interface Body {
        void run();
    }

    void test(String name, Body body) {
        try {
            body.run();
            passed++;
        } catch (RuntimeException | AssertionError e) {
            failed++;
            System.out.println("FAILED: " + name + ": " + e);
        }
    }

    void finish() {
        System.out.println(passed + " passed, " + failed + " failed");
        if (failed != 0) {
            System.exit(1);
        }
    }

    static void equal(long due, long got) {
        if (due != got) {
            throw new AssertionError("answered " + got + ", due is " + due);
        }
    }

    static void yes(boolean got) {
        equal(1, got ? 1 : 0);
    }

    static void no(boolean got) {
        equal(0, got ? 1 : 0);
    }

    static void refused(Class<? extends RuntimeException> due, Body call) {
        RuntimeException thrown = null;
        try {
            call.run();
        } catch (RuntimeException e) {
            thrown = e;
        }
        if (thrown == null || thrown.getClass() != due) {
            throw new AssertionError("threw " + thrown + ", due is " + due.getSimpleName());
        }
        if (!isThrownByFireNet(thrown)) {
            throw new AssertionError("FireNet let the machine or its library throw " + thrown);
        }
    }

    /** An exception that a statement of FireNet throws was made in FireNet, or in a class inside it. */
    static boolean isThrownByFireNet(RuntimeException thrown) {
        StackTraceElement[] trace = thrown.getStackTrace();
        return trace.length > 0 && trace[0].getClassName().startsWith("FireNet");
    }
}

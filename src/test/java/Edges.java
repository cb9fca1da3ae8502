import java.util.List;

/** Calls with what the document just allows, and with what it just refuses. */
final class Edges {
    /** Makes the same net each time. */
    interface Scene {
        FireNet made();
    }

    interface Call {
        void on(FireNet net);
    }

    interface CallWith {
        void on(FireNet net, int value);
    }

    private Edges() {
    }

    /** The call throws what is due, and a net on which it was made answers all that one answers on which it wasn't. */
    static void refused(Class<? extends RuntimeException> due, Scene scene, Call call) {
        for (Probe.Kind kind : Probe.ALL) {
            FireNet called = scene.made();
            Checks.refused(due, () -> call.on(called));
            List<String> before = Probe.answers(kind, scene.made());
            List<String> after = Probe.answers(kind, called);
            for (int i = 0; i < before.size(); i++) {
                if (i >= after.size() || !before.get(i).equals(after.get(i))) {
                    throw new AssertionError("a refused call changed the state: " + before.get(i)
                            + " without it, and with it " + (i < after.size() ? after.get(i) : "nothing"));
                }
            }
            Checks.equal(before.size(), after.size());
        }
    }

    /** Both ends of the range are taken, and what is just beyond, or far beyond, is out of range. */
    static void range(int least, int most, Scene scene, CallWith call) {
        taken(scene, call, least, most);
        refusedEach(Checks.OUT_OF_RANGE, scene, call, Integer.MIN_VALUE, least - 1, most + 1, Integer.MAX_VALUE);
    }

    /** There are so many of a kind, numbered from 0; there is none of another number. */
    static void numbers(int count, Scene scene, CallWith call) {
        if (count > 0) {
            taken(scene, call, 0, count - 1);
        }
        refusedEach(Checks.NO_SUCH, scene, call, Integer.MIN_VALUE, -1, count, Integer.MAX_VALUE);
    }

    static void taken(Scene scene, CallWith call, int... values) {
        for (int value : values) {
            try {
                call.on(scene.made(), value);
            } catch (RuntimeException | AssertionError e) {
                throw new AssertionError("with " + value + ": " + e, e);
            }
        }
    }

    static void refusedEach(Class<? extends RuntimeException> due, Scene scene, CallWith call, int... values) {
        for (int value : values) {
            try {
                refused(due, scene, net -> call.on(net, value));
            } catch (AssertionError e) {
                throw new AssertionError("with " + value + ": " + e.getMessage(), e);
            }
        }
    }
}

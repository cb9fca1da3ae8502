import java.lang.management.ManagementFactory;

/** "All calls of one run live in ONE room": what a net makes in all its calls is little, whichever calls they are. */
public final class RoomTest {
    private static final int MOST_CALLS = 512;
    /** A hundredth of 600,000 objects, each of 16 bytes at least. */
    private static final long MOST_BYTES = 6000 * 16;

    private static final com.sun.management.ThreadMXBean THREADS =
            (com.sun.management.ThreadMXBean) ManagementFactory.getThreadMXBean();

    private RoomTest() {
    }

    public static void main(String[] args) {
        Checks checks = new Checks();
        checks.test("room: a new object", () -> little(FireNet::new, 0, net -> { }));
        often(checks, "clock", Scenes::sixtySightings, net -> net.clock(1, 4));
        often(checks, "begin", Scenes::rich, net -> net.begin(0, 10, 1000, 2, 100));
        often(checks, "fireballAnew", Scenes::sixtySightings, net -> net.fireballAnew(0));
        often(checks, "fireballs", Scenes::sixtySightings, net -> net.fireballs(10));
        often(checks, "told", Scenes::sixtySightings, net -> net.told(0, 5));
        often(checks, "stream", Scenes::sixtySightings, net -> net.stream(0, 5));
        often(checks, "flux", Scenes::fiftyClouds, net -> net.flux(0, 3649, 0));
        often(checks, "wind", Scenes::fiftyWinds, net -> net.wind(10, 1, 1));
        often(checks, "chance", Scenes::sixtyWalks, net -> net.chance(0, 30, 40));
        often(checks, "fall", Scenes::fortyStones, net -> net.fall(0));
        often(checks, "minerals", Scenes::fortyStones, net -> net.minerals(0, 1, 2, 3));
        often(checks, "rule", Scenes::fortyStones, net -> net.rule(3, 500, 400));
        often(checks, "classOf", Scenes::fortyStones, net -> net.classOf(0, 9));
        often(checks, "pair", Scenes::fortyStones, net -> net.pair(0, 6, 9));
        often(checks, "law", Scenes::fortyStones, net -> net.law(0, 1));
        often(checks, "stone", Scenes::fortyStones, net -> net.stone(1, 5));
        often(checks, "whole", Scenes::fortyStones, net -> net.whole(0));
        checks.test("room: 60 sightings", () -> little(Nets::threeCameras, 60, RoomTest::see));
        checks.test("room: 60 walks", () -> little(Nets::oneFireball, 60, net -> net.walk(0, 30, 40, 1)));
        checks.test("room: 40 stones", () -> little(FireNet::new, 40, net -> net.find(1, 1, 1, 1, 1)));
        checks.finish();
    }

    private static void see(FireNet net) {
        net.begin(0, 10, 1000, 2, 100);
        net.end(30, 30, 30, 40);
    }

    private static void often(Checks checks, String name, Edges.Scene scene, Edges.Call call) {
        checks.test("room: " + name + ", call by call", () -> little(scene, MOST_CALLS, call));
    }

    private static void little(Edges.Scene scene, int calls, Edges.Call call) {
        madeBy(scene, Math.min(calls, 1), call);
        long made = madeBy(scene, calls, call);
        if (made > MOST_BYTES) {
            throw new AssertionError("made " + made + " bytes");
        }
    }

    /** The bytes of the calls; of the object itself, if there are none. The first time, the machine makes its own too. */
    private static long madeBy(Edges.Scene scene, int calls, Edges.Call call) {
        long thread = Thread.currentThread().getId();
        FireNet net = calls == 0 ? null : scene.made();
        long before = THREADS.getThreadAllocatedBytes(thread);
        if (net == null) {
            net = scene.made();
        }
        for (int i = 0; i < calls; i++) {
            call.on(net);
        }
        return THREADS.getThreadAllocatedBytes(thread) - before;
    }
}

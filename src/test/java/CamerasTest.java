/** Promises 1 to 6: new objects, cameras, clocks, clouds, and sightings that begin and end. */
public final class CamerasTest {
    private CamerasTest() {
    }

    public static void main(String[] args) {
        Checks checks = new Checks();
        checks.test("promise 1: objects know nothing of each other", CamerasTest::objectsApart);
        checks.test("promise 2: cameras are numbered from 0, up to 10", CamerasTest::camerasNumbered);
        checks.test("promise 3: a clock returns what was told before", CamerasTest::clockBefore);
        checks.test("promise 4: cloudy nights are counted by camera", CamerasTest::cloudsCounted);
        checks.test("promise 4: clouds are not told twice", CamerasTest::cloudTwice);
        checks.test("promise 4: no clouds where a sighting is", CamerasTest::cloudAndSighting);
        checks.test("promise 5: no sighting begins under clouds", CamerasTest::beginUnderClouds);
        checks.test("promise 5: a later begin takes the place of one ahead", CamerasTest::beginAgain);
        checks.test("promise 5: a begin that throws leaves the one ahead", CamerasTest::beginRefused);
        checks.test("promise 6: end needs a begin of its own", CamerasTest::endWithoutBegin);
        checks.test("promise 6: clouds told since the begin", CamerasTest::endUnderClouds);
        checks.finish();
    }

    private static void objectsApart() {
        FireNet one = Nets.oneFireball();
        one.law(0, 1);
        one.find(0, 0, 0, 1, 0);
        one.name(0, 3);
        one.rule(0, 5, 5);
        FireNet other = new FireNet();
        Checks.equal(0, other.camera(1, 1, 1));
        Checks.equal(0, other.law(0, 0));
        Checks.equal(0, other.find(0, 0, 0, 1, 0));
        Checks.equal(1, other.name(0, 3));
        other.minerals(0, 9, 1, 1);
        Checks.equal(0, other.classOf(0, 9));
    }

    private static void camerasNumbered() {
        FireNet net = new FireNet();
        for (int i = 0; i < 10; i++) {
            Checks.equal(i, net.camera(i, i, i));
        }
        Checks.refused(Checks.NOT_NOW, () -> net.camera(10, 10, 10));
        Checks.refused(Checks.OUT_OF_RANGE, () -> net.camera(100, 10, 10));
        Checks.equal(9, net.clock(9, 0));
        Checks.refused(Checks.NO_SUCH, () -> net.clock(10, 0));
    }

    private static void clockBefore() {
        FireNet net = new FireNet();
        net.camera(1, 2, 7);
        net.camera(3, 4, -8);
        Checks.equal(7, net.clock(0, 20));
        Checks.equal(20, net.clock(0, -30));
        Checks.equal(-8, net.clock(1, -8));
        Checks.equal(-8, net.clock(1, 0));
        Checks.equal(-30, net.clock(0, 0));
    }

    private static void cloudsCounted() {
        FireNet net = Nets.threeCameras();
        Checks.equal(1, net.cloud(0, 0));
        Checks.equal(1, net.cloud(1, 0));
        Checks.equal(2, net.cloud(0, 3649));
        Checks.equal(3, net.cloud(0, 7));
        Checks.equal(2, net.cloud(1, 8));
        Checks.equal(1, net.cloud(2, 7));
    }

    private static void cloudTwice() {
        FireNet net = Nets.threeCameras();
        net.cloud(1, 5);
        Checks.refused(Checks.NOT_NOW, () -> net.cloud(1, 5));
        Checks.equal(2, net.cloud(1, 6));
        Checks.equal(1, net.cloud(0, 5));
    }

    private static void cloudAndSighting() {
        FireNet net = Nets.threeCameras();
        net.begin(0, 5, 100, 60, 1);
        net.end(1, 1, 1, 1);
        Checks.refused(Checks.NOT_NOW, () -> net.cloud(0, 5));
        Checks.equal(1, net.cloud(0, 4));
        Checks.equal(2, net.cloud(0, 6));
        Checks.equal(1, net.cloud(1, 5));
        net.begin(2, 9, 100, 5, 50);
        Checks.equal(1, net.cloud(2, 9));
    }

    private static void beginUnderClouds() {
        FireNet net = Nets.threeCameras();
        net.cloud(1, 5);
        Checks.refused(Checks.NOT_NOW, () -> net.begin(1, 5, 5, 5, 50));
        Checks.refused(Checks.OUT_OF_RANGE, () -> net.begin(1, 5, 5, 61, 50));
        Checks.refused(Checks.NOT_NOW, () -> net.end(1, 1, 1, 1));
        net.begin(1, 6, 5, 5, 50);
        net.begin(0, 5, 5, 5, 50);
        Checks.equal(0, net.end(1, 1, 1, 1));
    }

    private static void beginAgain() {
        FireNet net = Nets.threeCameras();
        net.begin(1, 5, 5, 5, 50);
        net.begin(0, 6, 5, 5, 50);
        Checks.equal(0, net.end(1, 1, 1, 1));
        Checks.equal(1, net.cloud(1, 5));
        Checks.refused(Checks.NOT_NOW, () -> net.cloud(0, 6));
        Checks.refused(Checks.NOT_NOW, () -> net.end(1, 1, 1, 1));
    }

    private static void beginRefused() {
        FireNet net = Nets.threeCameras();
        net.cloud(2, 8);
        net.begin(1, 5, 5, 5, 50);
        Checks.refused(Checks.NO_SUCH, () -> net.begin(7, 6, 5, 5, 50));
        Checks.refused(Checks.OUT_OF_RANGE, () -> net.begin(0, 6, 5, 5, 0));
        Checks.refused(Checks.NOT_NOW, () -> net.begin(2, 8, 5, 5, 50));
        Checks.equal(0, net.end(1, 1, 1, 1));
        Checks.refused(Checks.NOT_NOW, () -> net.cloud(1, 5));
        Checks.equal(1, net.cloud(0, 6));
    }

    private static void endWithoutBegin() {
        FireNet net = Nets.threeCameras();
        Checks.refused(Checks.NOT_NOW, () -> net.end(1, 1, 1, 1));
        net.begin(1, 5, 5, 5, 50);
        Checks.equal(0, net.end(1, 1, 1, 1));
        Checks.refused(Checks.NOT_NOW, () -> net.end(1, 1, 1, 1));
        Checks.refused(Checks.NO_SUCH, () -> net.fireball(1));
        Checks.equal(-1, net.fireball(0));
    }

    private static void endUnderClouds() {
        FireNet net = Nets.threeCameras();
        net.begin(1, 5, 5, 5, 50);
        net.cloud(0, 5);
        net.cloud(1, 4);
        net.cloud(1, 5);
        Checks.refused(Checks.OUT_OF_RANGE, () -> net.end(1, 1, 0, 0));
        Checks.refused(Checks.NOT_NOW, () -> net.end(1, 1, 1, 1));
        Checks.refused(Checks.NO_SUCH, () -> net.fireball(0));
        net.begin(1, 6, 5, 5, 50);
        net.cloud(0, 6);
        Checks.equal(0, net.end(1, 1, 1, 1));
    }
}

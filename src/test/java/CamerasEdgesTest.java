/** The boundary cases of the promises 1 to 6, a test for each sentence of the document that names one. */
public final class CamerasEdgesTest {
    private CamerasEdgesTest() {
    }

    public static void main(String[] args) {
        Checks checks = new Checks();
        newObject(checks);
        camera(checks);
        clock(checks);
        cloud(checks);
        begin(checks);
        end(checks);
        checks.finish();
    }

    // ---- promise 1

    private static void newObject(Checks checks) {
        checks.test("promise 1 \"No cameras\": no number is one's", CamerasEdgesTest::noCameras);
        checks.test("promise 1 \"No .. sightings\": none is begun, none is of a fireball",
                CamerasEdgesTest::noSightings);
        checks.test("promise 1 \"No .. stones\": no number is one's", CamerasEdgesTest::noStones);
        checks.test("promise 1 \"A new object\": what is first gets 0", CamerasEdgesTest::firstNumbers);
        checks.test("terms \"at most 512 calls\": the last of them still answers", CamerasEdgesTest::lastCall);
    }

    private static void noCameras() {
        Edges.numbers(0, FireNet::new, (net, camera) -> net.clock(camera, 0));
        Edges.numbers(0, FireNet::new, (net, camera) -> net.cloud(camera, 5));
        Edges.numbers(0, FireNet::new, (net, camera) -> net.begin(camera, 5, 5, 5, 50));
    }

    private static void noSightings() {
        Edges.numbers(0, FireNet::new, (net, sighting) -> net.fireball(sighting));
        Edges.numbers(0, FireNet::new, (net, sighting) -> net.fireballAnew(sighting));
        Edges.numbers(0, FireNet::new, (net, fireball) -> net.told(fireball, 0));
        Edges.numbers(0, FireNet::new, (net, fireball) -> net.stream(fireball, fireball));
        Edges.numbers(0, FireNet::new, (net, fireball) -> net.walk(fireball, 5, 5, 5));
        Edges.numbers(0, FireNet::new, (net, fireball) -> net.chance(fireball, 5, 5));
        Edges.refused(Checks.NOT_NOW, FireNet::new, net -> net.end(1, 1, 1, 1));
        Checks.equal(0, new FireNet().fireballs(0));
        Checks.equal(0, new FireNet().flux(0, 3649, 0));
    }

    private static void noStones() {
        Edges.numbers(0, FireNet::new, (net, stone) -> net.fall(stone));
        Edges.numbers(0, FireNet::new, (net, stone) -> net.minerals(stone, 1, 1, 1));
        Edges.numbers(0, FireNet::new, (net, stone) -> net.classOf(stone, 0));
        Edges.numbers(0, FireNet::new, (net, stone) -> net.pair(stone, 1, 0));
        Edges.numbers(0, FireNet::new, (net, stone) -> net.cut(stone, 1, 0));
        Edges.numbers(0, FireNet::new, (net, stone) -> net.lend(stone, 0));
        Edges.numbers(0, FireNet::new, (net, stone) -> net.steal(stone));
        Edges.numbers(0, FireNet::new, (net, stone) -> net.give(stone, 0));
        Edges.numbers(0, FireNet::new, (net, stone) -> net.name(stone, 0));
        Edges.numbers(0, FireNet::new, (net, stone) -> net.doubt(stone, true));
        Edges.numbers(0, FireNet::new, (net, stone) -> net.stone(stone, 0));
        Edges.numbers(0, FireNet::new, (net, stone) -> net.whole(stone));
    }

    private static void firstNumbers() {
        FireNet net = new FireNet();
        Checks.equal(0, net.camera(5, 5, 5));
        Checks.equal(1, net.cloud(0, 5));
        net.begin(0, 6, 0, 1, 1);
        Checks.equal(0, net.end(1, 1, 1, 1));
        Checks.equal(0, net.find(5, 5, 5, 5, 5));
        Checks.equal(1, net.name(0, 9));
        net.minerals(0, 5, 5, 5);
        Checks.equal(0, net.classOf(0, 9));
        for (int land = 0; land < 4; land++) {
            Checks.equal(0, net.law(land, 1));
        }
    }

    private static void lastCall() {
        FireNet net = Nets.oneFireball();
        int made = 3 + 4;
        for (int i = made; i < 511; i++) {
            Checks.equal(11764, net.chance(0, 30, 40));
        }
        Checks.equal(5917, net.walk(0, 30, 40, 50));
    }

    // ---- promise 2

    private static void camera(Checks checks) {
        checks.test("promise 2 \"x 0 to 99\"", CamerasEdgesTest::cameraX);
        checks.test("promise 2 \"y 0 to 99\"", CamerasEdgesTest::cameraY);
        checks.test("promise 2 \"wrong -99 to 99 seconds\"", CamerasEdgesTest::cameraWrong);
        checks.test("promise 2 \"a camera stands at the corner x, y\": also at those of the ground",
                CamerasEdgesTest::cameraCorners);
        checks.test("promise 2 \"if there are 10\": the tenth is taken, the next one refused",
                CamerasEdgesTest::tenCameras);
        checks.test("promise 2: IllegalArgumentException comes ahead of IllegalStateException",
                CamerasEdgesTest::cameraOrder);
    }

    private static void cameraX() {
        Edges.range(0, 99, Scenes::rich, (net, x) -> Checks.equal(Scenes.CAMERAS, net.camera(x, 5, 0)));
    }

    private static void cameraY() {
        Edges.range(0, 99, Scenes::rich, (net, y) -> Checks.equal(Scenes.CAMERAS, net.camera(5, y, 0)));
    }

    private static void cameraWrong() {
        Edges.range(-99, 99, Scenes::rich, (net, wrong) -> {
            Checks.equal(Scenes.CAMERAS, net.camera(5, 5, wrong));
            Checks.equal(wrong, net.clock(Scenes.CAMERAS, 0));
        });
    }

    private static void cameraCorners() {
        FireNet net = new FireNet();
        int[][] corners = {{0, 0}, {99, 0}, {0, 99}, {99, 99}};
        for (int i = 0; i < 4; i++) {
            net.camera(corners[i][0], corners[i][1], 0);
            net.begin(i, 10, 1000, 1, 100);
            net.end(40 - corners[i][0], 20 - corners[i][1], 41 - corners[i][0], 70 - corners[i][1]);
        }
        long[] due = {4, 4000, 2000, 4100, 7000};
        for (int what = 0; what < due.length; what++) {
            Checks.equal(due[what], net.told(0, what));
        }
    }

    private static void tenCameras() {
        FireNet net = Scenes.rich();
        for (int i = Scenes.CAMERAS; i < 10; i++) {
            Checks.equal(i, net.camera(0, 0, i));
        }
        Checks.equal(9, net.clock(9, 0));
        Edges.refused(Checks.NOT_NOW, Scenes::tenCameras, full -> full.camera(5, 5, 0));
        Edges.numbers(10, Scenes::tenCameras, (full, camera) -> full.clock(camera, 0));
    }

    private static void cameraOrder() {
        Edges.refusedEach(Checks.OUT_OF_RANGE, Scenes::tenCameras, (net, x) -> net.camera(x, 5, 0), -1, 100);
        Edges.refusedEach(Checks.OUT_OF_RANGE, Scenes::tenCameras, (net, y) -> net.camera(5, y, 0), -1, 100);
        Edges.refusedEach(Checks.OUT_OF_RANGE, Scenes::tenCameras, (net, w) -> net.camera(5, 5, w), -100, 100);
    }

    // ---- promise 3

    private static void clock(Checks checks) {
        checks.test("promise 3 \"if there is no such camera\"", CamerasEdgesTest::clockNumbers);
        checks.test("promise 3 \"wrong -99 to 99\"", CamerasEdgesTest::clockWrong);
        checks.test("promise 3 \"what was told before\": with the camera, by the clock, and not by a refused call",
                CamerasEdgesTest::clockBefore);
        checks.test("promise 3: IndexOutOfBoundsException comes ahead of IllegalArgumentException",
                CamerasEdgesTest::clockOrder);
    }

    private static void clockNumbers() {
        Edges.numbers(Scenes.CAMERAS, Scenes::rich, (net, camera) -> net.clock(camera, 7));
    }

    private static void clockWrong() {
        Edges.range(-99, 99, Scenes::rich, (net, wrong) -> {
            Checks.equal(3, net.clock(1, wrong));
            Checks.equal(wrong, net.clock(1, 0));
        });
    }

    private static void clockBefore() {
        FireNet net = Scenes.rich();
        Checks.equal(-2, net.clock(2, -99));
        Checks.equal(-99, net.clock(2, -99));
        Checks.equal(-99, net.clock(2, 99));
        Checks.refused(Checks.OUT_OF_RANGE, () -> net.clock(2, 100));
        Checks.equal(99, net.clock(2, 0));
        Checks.equal(0, net.clock(2, 0));
        Checks.equal(3, net.clock(1, 0));
    }

    private static void clockOrder() {
        Edges.refusedEach(Checks.NO_SUCH, Scenes::rich, (net, wrong) -> net.clock(-1, wrong), -100, 100);
        Edges.refusedEach(Checks.NO_SUCH, Scenes::rich, (net, wrong) -> net.clock(4, wrong), -100, 100);
    }

    // ---- promise 4

    private static void cloud(Checks checks) {
        checks.test("promise 4 \"if there is no such camera\"", CamerasEdgesTest::cloudNumbers);
        checks.test("promise 4 \"night 0 to 3649\"", CamerasEdgesTest::cloudNights);
        checks.test("promise 4 \"if that was told\": not beside that night, nor for another camera",
                CamerasEdgesTest::cloudTold);
        checks.test("promise 4 \"it has a sighting in that night\": also one that doesn't count",
                CamerasEdgesTest::cloudSighting);
        checks.test("promise 4 \"it has a sighting\": one that is begun isn't yet", CamerasEdgesTest::cloudBegun);
        checks.test("promise 4 \"there are 50 of all\": the fiftieth is taken, the next one refused",
                CamerasEdgesTest::fiftyClouds);
        checks.test("promise 4 \"how many cloudy nights it has\": the first one, and 50 of one camera",
                CamerasEdgesTest::cloudCounts);
        checks.test("promise 4: IndexOutOfBoundsException comes ahead of the others", CamerasEdgesTest::cloudOrder);
        checks.test("promise 4: IllegalArgumentException comes ahead of IllegalStateException",
                CamerasEdgesTest::cloudOrderOfNights);
    }

    private static void cloudNumbers() {
        Edges.numbers(Scenes.CAMERAS, Scenes::rich, (net, camera) -> net.cloud(camera, 2000));
    }

    private static void cloudNights() {
        Edges.range(0, 3649, Scenes::rich, (net, night) -> Checks.equal(1, net.cloud(0, night)));
    }

    private static void cloudTold() {
        Edges.refused(Checks.NOT_NOW, Scenes::rich, net -> net.cloud(3, 10));
        Edges.refused(Checks.NOT_NOW, Scenes::rich, net -> net.cloud(3, 11));
        Edges.refused(Checks.NOT_NOW, Scenes::rich, net -> net.cloud(2, 12));
        Checks.equal(3, Scenes.rich().cloud(3, 9));
        Checks.equal(3, Scenes.rich().cloud(3, 12));
        Checks.equal(2, Scenes.rich().cloud(2, 11));
        Checks.equal(1, Scenes.rich().cloud(1, 12));
    }

    private static FireNet dimSighting() {
        FireNet net = Scenes.rich();
        net.begin(3, 50, 0, 60, 1);
        net.end(1, 1, 1, 1);
        return net;
    }

    private static void cloudSighting() {
        Edges.refused(Checks.NOT_NOW, CamerasEdgesTest::dimSighting, net -> net.cloud(3, 50));
        Edges.refused(Checks.NOT_NOW, Scenes::rich, net -> net.cloud(0, 10));
        Edges.refused(Checks.NOT_NOW, Scenes::rich, net -> net.cloud(2, 30));
        FireNet first = Nets.threeCameras();
        first.begin(0, 0, 0, 1, 1);
        first.end(1, 1, 1, 1);
        Checks.refused(Checks.NOT_NOW, () -> first.cloud(0, 0));
        Checks.equal(1, first.cloud(0, 1));
        Checks.equal(3, dimSighting().cloud(3, 49));
        Checks.equal(3, dimSighting().cloud(3, 51));
        Checks.equal(1, Scenes.rich().cloud(0, 30));
        Checks.equal(2, Scenes.rich().cloud(2, 20));
    }

    private static void cloudBegun() {
        FireNet net = new FireNet();
        net.camera(5, 5, 0);
        net.begin(0, 50, 0, 1, 1);
        Checks.equal(1, net.cloud(0, 50));
    }

    private static void fiftyClouds() {
        FireNet net = Scenes.rich();
        for (int i = Scenes.CLOUDS; i < 50; i++) {
            Checks.equal(i - Scenes.CLOUDS + 1, net.cloud(1, 2000 + i));
        }
        Edges.refused(Checks.NOT_NOW, Scenes::fiftyClouds, full -> full.cloud(0, 1999));
        Edges.refused(Checks.NOT_NOW, Scenes::fiftyClouds, full -> full.cloud(3, 0));
    }

    private static void cloudCounts() {
        FireNet net = new FireNet();
        net.camera(5, 5, 0);
        net.camera(6, 6, 0);
        for (int i = 0; i < 50; i++) {
            Checks.equal(i + 1, net.cloud(1, 3649 - i));
        }
        Checks.refused(Checks.NOT_NOW, () -> net.cloud(0, 0));
    }

    private static void cloudOrder() {
        Edges.refusedEach(Checks.NO_SUCH, Scenes::rich, (net, night) -> net.cloud(4, night), -1, 3650);
        Edges.refusedEach(Checks.NO_SUCH, Scenes::rich, (net, night) -> net.cloud(-1, night), -1, 3650);
        Edges.refusedEach(Checks.NO_SUCH, Scenes::fiftyClouds, (net, camera) -> net.cloud(camera, 5), -1, 4);
        Edges.refusedEach(Checks.NO_SUCH, Scenes::fiftyClouds, (net, camera) -> net.cloud(camera, 3650), -1, 4);
    }

    private static void cloudOrderOfNights() {
        Edges.refusedEach(Checks.OUT_OF_RANGE, Scenes::fiftyClouds, (net, night) -> net.cloud(0, night), -1, 3650);
    }

    // ---- promise 5

    private static void begin(Checks checks) {
        checks.test("promise 5 \"if there is no such camera\"", CamerasEdgesTest::beginNumbers);
        checks.test("promise 5 \"night 0 to 3649\"", CamerasEdgesTest::beginNights);
        checks.test("promise 5 \"second 0 to 86399\"", CamerasEdgesTest::beginSeconds);
        checks.test("promise 5 \"length 1 to 60\"", CamerasEdgesTest::beginLengths);
        checks.test("promise 5 \"light 1 to 1000\"", CamerasEdgesTest::beginLights);
        checks.test("promise 5 \"if there were clouds over it in that night\": not beside it, nor over another one",
                CamerasEdgesTest::beginClouds);
        checks.test("promise 5 \"Begins a sighting\": instead of one that was begun and not ended",
                CamerasEdgesTest::beginAnew);
        checks.test("promise 5: IndexOutOfBoundsException comes ahead of IllegalArgumentException",
                CamerasEdgesTest::beginOrder);
        checks.test("promise 5: IllegalArgumentException comes ahead of IllegalStateException",
                CamerasEdgesTest::beginOrderOfClouds);
    }

    private static void beginNumbers() {
        Edges.numbers(Scenes.CAMERAS, Scenes::rich, (net, camera) -> net.begin(camera, 40, 5, 5, 50));
    }

    private static void endsAnother(FireNet net) {
        Checks.equal(Scenes.SIGHTINGS, net.end(1, 1, 1, 1));
    }

    private static void beginNights() {
        Edges.range(0, 3649, Scenes::rich, (net, night) -> {
            net.begin(1, night, 5, 5, 50);
            endsAnother(net);
            Checks.refused(Checks.NOT_NOW, () -> net.cloud(1, night));
        });
    }

    private static void beginSeconds() {
        Edges.range(0, 86399, Scenes::rich, (net, second) -> {
            net.begin(1, 40, second, 5, 50);
            endsAnother(net);
        });
    }

    private static void beginLengths() {
        Edges.range(1, 60, Scenes::rich, (net, length) -> {
            net.begin(1, 40, 5, length, 50);
            endsAnother(net);
        });
    }

    private static void beginLights() {
        Edges.range(1, 1000, Scenes::rich, (net, light) -> {
            net.begin(1, 40, 5, 5, light);
            endsAnother(net);
        });
    }

    private static void beginClouds() {
        Edges.refused(Checks.NOT_NOW, Scenes::rich, net -> net.begin(3, 10, 5, 5, 50));
        Edges.refused(Checks.NOT_NOW, Scenes::rich, net -> net.begin(3, 11, 5, 5, 50));
        int[][] clear = {{3, 9}, {3, 12}, {2, 10}, {2, 11}, {2, 13}, {1, 12}};
        for (int[] of : clear) {
            FireNet net = Scenes.rich();
            net.begin(of[0], of[1], 5, 5, 50);
            endsAnother(net);
        }
    }

    private static void beginAnew() {
        FireNet net = Scenes.rich();
        net.begin(3, 40, 5, 5, 50);
        endsAnother(net);
        Checks.equal(1, net.cloud(Scenes.BEGUN_CAMERA, 40));
        Checks.refused(Checks.NOT_NOW, () -> net.cloud(3, 40));
        Checks.refused(Checks.NOT_NOW, () -> net.end(1, 1, 1, 1));
    }

    private static void beginOrder() {
        for (int camera : new int[] {-1, 4}) {
            Edges.refused(Checks.NO_SUCH, Scenes::rich, net -> net.begin(camera, 3650, 5, 5, 50));
            Edges.refused(Checks.NO_SUCH, Scenes::rich, net -> net.begin(camera, 5, 86400, 5, 50));
            Edges.refused(Checks.NO_SUCH, Scenes::rich, net -> net.begin(camera, 5, 5, 61, 50));
            Edges.refused(Checks.NO_SUCH, Scenes::rich, net -> net.begin(camera, 5, 5, 5, 1001));
            Edges.refused(Checks.NO_SUCH, Scenes::rich, net -> net.begin(camera, -1, -1, 0, 0));
        }
    }

    private static void beginOrderOfClouds() {
        Edges.refusedEach(Checks.OUT_OF_RANGE, Scenes::rich, (net, at) -> net.begin(3, 10, at, 5, 50), -1, 86400);
        Edges.refusedEach(Checks.OUT_OF_RANGE, Scenes::rich, (net, is) -> net.begin(3, 10, 5, is, 50), 0, 61);
        Edges.refusedEach(Checks.OUT_OF_RANGE, Scenes::rich, (net, is) -> net.begin(3, 10, 5, 5, is), 0, 1001);
    }

    // ---- promise 6

    private static void end(Checks checks) {
        checks.test("promise 6 \"beginX -100 to 100\"", CamerasEdgesTest::endBeginX);
        checks.test("promise 6 \"beginY -100 to 100\"", CamerasEdgesTest::endBeginY);
        checks.test("promise 6 \"endX -100 to 100\"", CamerasEdgesTest::endEndX);
        checks.test("promise 6 \"endY -100 to 100\"", CamerasEdgesTest::endEndY);
        checks.test("promise 6 \"both of a direction are 0\": those in which it began", CamerasEdgesTest::endNoBegin);
        checks.test("promise 6 \"both of a direction are 0\": those in which it ended", CamerasEdgesTest::endNoEnd);
        checks.test("promise 6 \"not both 0\": one of them may be", CamerasEdgesTest::endOneZero);
        checks.test("promise 6 \"if none was begun\": not at all", CamerasEdgesTest::endNotBegun);
        checks.test("promise 6 \"none was begun since the last one\"", CamerasEdgesTest::endTwice);
        checks.test("promise 6 \"there were clouds told for it since\": until another one is begun",
                CamerasEdgesTest::endClouds);
        checks.test("promise 6 \"clouds told for it\": not those beside its night, nor over another camera",
                CamerasEdgesTest::endOtherClouds);
        checks.test("promise 6 \"there are 60\": the sixtieth is taken, the next one refused",
                CamerasEdgesTest::sixtySightings);
        checks.test("promise 6: IllegalArgumentException comes ahead of none being begun",
                CamerasEdgesTest::endOrderOfNone);
        checks.test("promise 6: IllegalArgumentException comes ahead of clouds", CamerasEdgesTest::endOrderOfClouds);
        checks.test("promise 6: IllegalArgumentException comes ahead of 60", CamerasEdgesTest::endOrderOfSixty);
    }

    private static void endIs(FireNet net, int beginX, int beginY, int endX, int endY) {
        Checks.equal(Scenes.SIGHTINGS, net.end(beginX, beginY, endX, endY));
    }

    private static void endBeginX() {
        Edges.range(-100, 100, Scenes::rich, (net, x) -> endIs(net, x, 1, 1, 1));
    }

    private static void endBeginY() {
        Edges.range(-100, 100, Scenes::rich, (net, y) -> endIs(net, 1, y, 1, 1));
    }

    private static void endEndX() {
        Edges.range(-100, 100, Scenes::rich, (net, x) -> endIs(net, 1, 1, x, 1));
    }

    private static void endEndY() {
        Edges.range(-100, 100, Scenes::rich, (net, y) -> endIs(net, 1, 1, 1, y));
    }

    private static void endNoBegin() {
        Edges.refused(Checks.OUT_OF_RANGE, Scenes::rich, net -> net.end(0, 0, 1, 1));
        Edges.refused(Checks.OUT_OF_RANGE, Scenes::rich, net -> net.end(0, 0, 0, 0));
    }

    private static void endNoEnd() {
        Edges.refused(Checks.OUT_OF_RANGE, Scenes::rich, net -> net.end(1, 1, 0, 0));
    }

    private static void endOneZero() {
        endIs(Scenes.rich(), 0, 1, 1, 1);
        endIs(Scenes.rich(), 1, 0, 1, 1);
        endIs(Scenes.rich(), 1, 1, 0, 1);
        endIs(Scenes.rich(), 1, 1, 1, 0);
        endIs(Scenes.rich(), 0, -1, -1, 0);
        endIs(Scenes.rich(), -1, 0, 0, -1);
        endIs(Scenes.rich(), 1, -1, -1, 1);
    }

    private static FireNet noneBegun() {
        FireNet net = new FireNet();
        net.camera(5, 5, 0);
        return net;
    }

    private static FireNet ended() {
        FireNet net = Scenes.rich();
        Scenes.endAtFireball(net);
        return net;
    }

    private static FireNet cloudsSince() {
        FireNet net = Scenes.rich();
        net.begin(3, 40, 5, 5, 50);
        net.cloud(3, 40);
        return net;
    }

    private static void endNotBegun() {
        Edges.refused(Checks.NOT_NOW, FireNet::new, net -> net.end(1, 1, 1, 1));
        Edges.refused(Checks.NOT_NOW, CamerasEdgesTest::noneBegun, net -> net.end(1, 1, 1, 1));
    }

    private static void endTwice() {
        Edges.refused(Checks.NOT_NOW, CamerasEdgesTest::ended, net -> net.end(1, 1, 1, 1));
        FireNet net = ended();
        net.begin(0, 40, 5, 5, 50);
        Checks.equal(Scenes.SIGHTINGS + 1, net.end(1, 1, 1, 1));
        Checks.refused(Checks.NOT_NOW, () -> net.end(1, 1, 1, 1));
    }

    private static void endClouds() {
        Edges.refused(Checks.NOT_NOW, CamerasEdgesTest::cloudsSince, net -> net.end(1, 1, 1, 1));
        FireNet net = cloudsSince();
        Checks.refused(Checks.NOT_NOW, () -> net.end(1, 1, 1, 1));
        Checks.refused(Checks.NOT_NOW, () -> net.begin(3, 40, 5, 5, 50));
        Checks.refused(Checks.NOT_NOW, () -> net.end(1, 1, 1, 1));
        net.begin(3, 41, 5, 5, 50);
        endIs(net, 1, 1, 1, 1);
    }

    private static void endOtherClouds() {
        FireNet net = Scenes.rich();
        net.begin(3, 40, 5, 5, 50);
        net.cloud(3, 39);
        net.cloud(3, 41);
        net.cloud(0, 40);
        net.cloud(2, 40);
        endIs(net, 1, 1, 1, 1);
    }

    private static void sixtySightings() {
        FireNet net = Scenes.rich();
        for (int i = Scenes.SIGHTINGS; i < 60; i++) {
            Checks.equal(i, net.end(1, 1, 1, 1));
            net.begin(0, 100, 5, 5, 50);
        }
        Checks.equal(-1, net.fireball(59));
        Edges.refused(Checks.NOT_NOW, Scenes::sixtySightings, full -> full.end(1, 1, 1, 1));
        Edges.refused(Checks.NOT_NOW, Scenes::sixtySightings, Scenes::endAtFireball);
    }

    private static void outOfRange(Edges.Scene scene) {
        Edges.refusedEach(Checks.OUT_OF_RANGE, scene, (net, x) -> net.end(x, 1, 1, 1), -101, 101);
        Edges.refusedEach(Checks.OUT_OF_RANGE, scene, (net, y) -> net.end(1, y, 1, 1), -101, 101);
        Edges.refusedEach(Checks.OUT_OF_RANGE, scene, (net, x) -> net.end(1, 1, x, 1), -101, 101);
        Edges.refusedEach(Checks.OUT_OF_RANGE, scene, (net, y) -> net.end(1, 1, 1, y), -101, 101);
        Edges.refused(Checks.OUT_OF_RANGE, scene, net -> net.end(0, 0, 1, 1));
        Edges.refused(Checks.OUT_OF_RANGE, scene, net -> net.end(1, 1, 0, 0));
    }

    private static void endOrderOfNone() {
        outOfRange(FireNet::new);
        outOfRange(CamerasEdgesTest::ended);
    }

    private static void endOrderOfClouds() {
        outOfRange(CamerasEdgesTest::cloudsSince);
    }

    private static void endOrderOfSixty() {
        outOfRange(Scenes::sixtySightings);
    }
}

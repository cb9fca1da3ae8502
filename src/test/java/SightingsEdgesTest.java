/** The boundary cases of the promises 7 to 12, and of sightings that join, a test for each sentence that names one. */
public final class SightingsEdgesTest {
    private static final int[] FROM = {30, 30};
    private static final int[] TO = {30, 40};

    private SightingsEdgesTest() {
    }

    public static void main(String[] args) {
        Checks checks = new Checks();
        counting(checks);
        crossing(checks);
        joining(checks);
        facts(checks);
        fireball(checks);
        fireballs(checks);
        told(checks);
        stream(checks);
        flux(checks);
        checks.finish();
    }

    // ---- what the tests share

    /** A sighting of the night 10 by its second, length and light, and by the ways of its rays. */
    private static void sight(FireNet net, int camera, int second, int length, int light, int... ways) {
        net.begin(camera, 10, second, length, light);
        net.end(ways[0], ways[1], ways[2], ways[3]);
    }

    private static void due(FireNet net, int... fireballs) {
        for (int i = 0; i < fireballs.length; i++) {
            Checks.equal(fireballs[i], net.fireball(i));
            Checks.equal(fireballs[i], net.fireballAnew(i));
        }
    }

    private static void joined(FireNet net) {
        due(net, 0, 0);
    }

    private static void apart(FireNet net) {
        due(net, -1, -1);
    }

    private static void toldIs(FireNet net, int fireball, int what, long... due) {
        for (int i = 0; i < due.length; i++) {
            Checks.equal(due[i], net.told(fireball, what + i));
        }
    }

    /** Two cameras see the same, with clocks that are wrong, at the seconds that these tell. */
    private static FireNet clocks(int wrong, int second, int otherWrong, int otherSecond) {
        FireNet net = Nets.threeCameras();
        net.clock(0, wrong);
        net.clock(1, otherWrong);
        Nets.see(net, 0, 10, second, 2, 100, FROM, TO);
        Nets.see(net, 1, 10, otherSecond, 2, 100, FROM, TO);
        return net;
    }

    private static FireNet lengthsAndLights(int length, int light, int otherLength, int otherLight) {
        FireNet net = Nets.threeCameras();
        Nets.see(net, 0, 10, 1000, length, light, FROM, TO);
        Nets.see(net, 1, 10, 1000, otherLength, otherLight, FROM, TO);
        return net;
    }

    // ---- which sightings count

    private static void counting(Checks checks) {
        checks.test("promises 7, 8 \"at most 30 seconds long\"", SightingsEdgesTest::countedLengths);
        checks.test("promises 7, 8 \"its light is at least 50\"", SightingsEdgesTest::countedLights);
    }

    private static void countedLengths() {
        joined(lengthsAndLights(1, 100, 30, 100));
        joined(lengthsAndLights(30, 100, 1, 100));
        apart(lengthsAndLights(1, 100, 31, 100));
        apart(lengthsAndLights(31, 100, 1, 100));
        apart(lengthsAndLights(60, 1000, 60, 1000));
    }

    private static void countedLights() {
        joined(lengthsAndLights(2, 50, 2, 1000));
        joined(lengthsAndLights(2, 1000, 2, 50));
        apart(lengthsAndLights(2, 49, 2, 1000));
        apart(lengthsAndLights(2, 1000, 2, 49));
        apart(lengthsAndLights(2, 1, 2, 1));
    }

    // ---- rays that cross

    private static void crossing(Checks checks) {
        checks.test("promises 7, 8 \"if they are not parallel\": side by side, in line, against each other",
                SightingsEdgesTest::parallel);
        checks.test("promises 7, 8 \"if they are not parallel\": just not", SightingsEdgesTest::nearlyParallel);
        checks.test("promises 7, 8 \"both times are above 0\": 0 at a camera", SightingsEdgesTest::atCamera);
        checks.test("promises 7, 8 \"both times are above 0\": just above", SightingsEdgesTest::nearCamera);
        checks.test("promises 7, 8 \"both times are above 0\": behind a camera", SightingsEdgesTest::behindCamera);
        checks.test("promises 7, 8 \"both times are above 0\": two cameras at one place",
                SightingsEdgesTest::camerasTogether);
        checks.test("promises 7, 8 \"so many times x and y as one likes\": far beyond the ground",
                SightingsEdgesTest::farAway);
        checks.test("promise 10 \"in hundredths .. rounded down\": also below 0, and not if nothing is over",
                SightingsEdgesTest::hundredths);
    }

    /** The ways of rays of the cameras 0 and 1 at 0, 0 and 60, 0: in the beginning, in the end, as they should join. */
    private static void rays(boolean cross, int x, int y, int otherX, int otherY) {
        FireNet begins = Nets.threeCameras();
        sight(begins, 0, 1000, 2, 100, x, y, 1, 1);
        sight(begins, 1, 1000, 2, 100, otherX, otherY, -1, 1);
        FireNet ends = Nets.threeCameras();
        sight(ends, 1, 1000, 2, 100, -1, 1, otherX, otherY);
        sight(ends, 0, 1000, 2, 100, 1, 1, x, y);
        for (FireNet net : new FireNet[] {begins, ends}) {
            if (cross) {
                joined(net);
            } else {
                apart(net);
            }
        }
    }

    private static void parallel() {
        rays(false, 1, 2, 1, 2);
        rays(false, 1, 2, 2, 4);
        rays(false, 1, 2, -1, -2);
        rays(false, 0, 1, 0, 1);
        rays(false, 1, 0, 1, 0);
        rays(false, 1, 0, -1, 0);
        rays(false, -1, 0, 1, 0);
    }

    private static void nearlyParallel() {
        rays(true, 100, 99, 99, 100);
        rays(true, 99, 100, 98, 99);
        rays(true, 100, 99, 99, 99);
        rays(false, 99, 99, 100, 99);
        rays(false, 98, 99, 99, 100);
        rays(true, 100, 1, -100, 1);
        rays(true, 100, -1, -100, -1);
    }

    private static void atCamera() {
        rays(false, 1, 0, 0, 1);
        rays(false, 1, 0, -1, 1);
        rays(false, 0, 1, -1, 0);
        rays(false, 1, -1, -1, 0);
    }

    private static void nearCamera() {
        rays(true, 100, 1, 0, 1);
        rays(true, 100, -1, 0, -1);
        rays(true, 0, 1, -100, 1);
        rays(true, 100, 1, 100, 100);
        rays(false, 100, -1, 0, 1);
        rays(false, 0, 1, -100, -1);
    }

    private static void behindCamera() {
        rays(false, 1, 1, 1, -1);
        rays(false, -1, -1, -1, 1);
        rays(false, -1, -1, 1, -1);
        rays(false, 1, 1, -1, -1);
        rays(true, 1, -1, -1, -1);
    }

    private static void camerasTogether() {
        FireNet net = new FireNet();
        net.camera(20, 20, 0);
        net.camera(20, 20, 0);
        sight(net, 0, 1000, 2, 100, 1, 0, 1, 1);
        sight(net, 1, 1000, 2, 100, 0, 1, -1, 1);
        apart(net);
        FireNet beside = new FireNet();
        beside.camera(20, 20, 0);
        beside.camera(21, 20, 0);
        sight(beside, 0, 1000, 2, 100, 1, 1, 1, 1);
        sight(beside, 1, 1000, 2, 100, 0, 1, -1, 1);
        joined(beside);
    }

    private static void farAway() {
        FireNet net = new FireNet();
        net.camera(0, 0, 0);
        net.camera(99, 0, 0);
        sight(net, 0, 1000, 1, 100, -100, -99, 99, 98);
        sight(net, 1, 1000, 1, 100, -99, -98, 100, 99);
        joined(net);
        toldIs(net, 0, 1, -97020000, -96049800, 97029900, 96049800);
    }

    private static void hundredths() {
        FireNet net = Nets.threeCameras();
        sight(net, 0, 1000, 1, 60, -2, 3, -2, -3);
        sight(net, 1, 1000, 1, 60, -5, 1, -5, -1);
        toldIs(net, 0, 1, -924, 1384, -924, -1385);
        FireNet even = Nets.threeCameras();
        sight(even, 0, 1000, 1, 60, -1, 2, 3, -4);
        sight(even, 1, 1000, 1, 60, -7, 2, -9, -4);
        toldIs(even, 0, 1, -1000, 2000, 1500, -2000);
    }

    // ---- sightings that join

    private static void joining(Checks checks) {
        checks.test("promises 7, 8 \"of one night\": not of the next one, and not of the last and the first one",
                SightingsEdgesTest::oneNight);
        checks.test("promises 7, 8 \"and two cameras\": not of one alone", SightingsEdgesTest::twoCameras);
        checks.test("promises 7, 8 \"at most 5 apart\"", SightingsEdgesTest::fiveApart);
        checks.test("promises 7, 8 \"which are taken off what it tells\": up to 99 either way",
                SightingsEdgesTest::takenOff);
        checks.test("promises 7, 8 \"perhaps below 0\"", SightingsEdgesTest::belowZero);
        checks.test("promises 7, 8 \"second, 0 to 86399\": right ones may be above, and don't wrap around",
                SightingsEdgesTest::aboveDay);
        checks.test("promises 7, 8 \"as told last\": also for sightings ahead of it", SightingsEdgesTest::toldLast);
        checks.test("promises 7, 8 \"the rays in which they began cross, and those in which they ended\"",
                SightingsEdgesTest::bothCross);
        checks.test("promises 7, 8 \"directly or over others\"", SightingsEdgesTest::overOthers);
        checks.test("promises 7, 8 \"over others\": all 60 in a chain", SightingsEdgesTest::chainOfSixty);
        checks.test("promises 7, 8 \"that of the lowest of them\": also if it joins last", SightingsEdgesTest::lowest);
        checks.test("promises 7, 8 \"that of the lowest of them\": two that began in turns",
                SightingsEdgesTest::inTurns);
        checks.test("promises 7, 8 \"one alone is none\"", SightingsEdgesTest::alone);
    }

    private static FireNet nights(int night, int second, int otherNight, int otherSecond) {
        FireNet net = Nets.threeCameras();
        Nets.see(net, 0, night, second, 2, 100, FROM, TO);
        Nets.see(net, 1, otherNight, otherSecond, 2, 100, FROM, TO);
        return net;
    }

    private static void oneNight() {
        joined(nights(0, 1000, 0, 1000));
        joined(nights(3649, 1000, 3649, 1000));
        apart(nights(0, 1000, 1, 1000));
        apart(nights(1, 1000, 0, 1000));
        apart(nights(3649, 1000, 0, 1000));
        apart(nights(10, 86399, 11, 0));
        apart(nights(11, 0, 10, 86399));
    }

    private static void twoCameras() {
        FireNet net = Nets.threeCameras();
        Nets.see(net, 0, 10, 1000, 2, 100, FROM, TO);
        Nets.see(net, 0, 10, 1000, 2, 100, FROM, TO);
        Nets.see(net, 0, 10, 1000, 2, 100, TO, FROM);
        due(net, -1, -1, -1);
    }

    private static void fiveApart() {
        joined(clocks(0, 1000, 0, 1005));
        joined(clocks(0, 1005, 0, 1000));
        apart(clocks(0, 1000, 0, 1006));
        apart(clocks(0, 1006, 0, 1000));
        joined(clocks(0, 0, 0, 5));
        apart(clocks(0, 0, 0, 6));
        joined(clocks(0, 86399, 0, 86394));
        apart(clocks(0, 86399, 0, 86393));
    }

    private static void takenOff() {
        joined(clocks(99, 1198, -99, 1005));
        apart(clocks(99, 1198, -99, 1006));
        joined(clocks(99, 1198, -99, 995));
        apart(clocks(99, 1198, -99, 994));
        joined(clocks(-99, 1000, 99, 1203));
        apart(clocks(-99, 1000, 99, 1204));
    }

    private static void belowZero() {
        joined(clocks(99, 0, 94, 0));
        apart(clocks(99, 0, 93, 0));
        joined(clocks(3, 0, -2, 0));
        apart(clocks(3, 0, -3, 0));
        joined(clocks(5, 0, 0, 0));
        apart(clocks(6, 0, 0, 0));
    }

    private static void aboveDay() {
        joined(clocks(-99, 86399, -94, 86399));
        apart(clocks(-99, 86399, -93, 86399));
        apart(clocks(0, 0, 0, 86399));
        apart(clocks(-1, 86399, 0, 0));
        apart(clocks(99, 0, 0, 86301));
    }

    private static void toldLast() {
        FireNet net = clocks(0, 1000, 0, 1006);
        apart(net);
        net.clock(1, 1);
        joined(net);
        net.clock(1, 11);
        joined(net);
        net.clock(1, 12);
        apart(net);
        net.clock(0, -99);
        apart(net);
        net.clock(1, -88);
        joined(net);
    }

    private static void bothCross() {
        FireNet both = Nets.threeCameras();
        sight(both, 0, 1000, 2, 100, 1, 1, 1, 2);
        sight(both, 1, 1000, 2, 100, -1, 1, -1, 2);
        joined(both);
        FireNet begins = Nets.threeCameras();
        sight(begins, 0, 1000, 2, 100, 1, 1, 1, 2);
        sight(begins, 1, 1000, 2, 100, -1, 1, 1, -2);
        apart(begins);
        FireNet ends = Nets.threeCameras();
        sight(ends, 0, 1000, 2, 100, 1, 1, 1, 2);
        sight(ends, 1, 1000, 2, 100, 1, -1, -1, 2);
        apart(ends);
    }

    /** Not from FROM, which is in line with the cameras 1 and 2. */
    private static void see(FireNet net, int camera, int second) {
        Nets.see(net, camera, 10, second, 2, 100, TO, Nets.at(30, 50));
    }

    private static void overOthers() {
        FireNet net = Nets.threeCameras();
        see(net, 0, 1000);
        see(net, 1, 1005);
        see(net, 2, 1010);
        see(net, 0, 1016);
        due(net, 0, 0, 0, -1);
        see(net, 1, 1011);
        due(net, 0, 0, 0, 0, 0);
        net.clock(1, 99);
        due(net, -1, -1, -1, -1, -1);
    }

    private static void chainOfSixty() {
        FireNet net = Nets.threeCameras();
        for (int i = 0; i < 60; i++) {
            int step = (i * 7 + 29) % 60;
            see(net, step % 3, 1000 + 5 * step);
        }
        for (int i = 0; i < 60; i++) {
            Checks.equal(0, net.fireball(i));
            Checks.equal(0, net.fireballAnew(i));
        }
        toldIs(net, 0, 0, 60, 3000, 4000, 3000, 5000, 5000, 200, 19);
    }

    private static void lowest() {
        FireNet net = Nets.threeCameras();
        see(net, 0, 1006);
        see(net, 1, 1000);
        see(net, 2, 1000);
        due(net, -1, 1, 1);
        net.clock(0, 1);
        due(net, 0, 0, 0);
        Checks.refused(Checks.NO_SUCH, () -> net.told(1, 0));
        net.clock(0, 0);
        due(net, -1, 1, 1);
    }

    private static void inTurns() {
        FireNet net = Nets.threeCameras();
        see(net, 2, 900);
        see(net, 0, 1000);
        see(net, 0, 2000);
        see(net, 1, 1000);
        see(net, 2, 3000);
        see(net, 1, 2000);
        see(net, 2, 1005);
        due(net, -1, 1, 2, 1, -1, 2, 1);
        toldIs(net, 1, 0, 3);
        toldIs(net, 2, 0, 2);
    }

    private static void alone() {
        FireNet net = Nets.threeCameras();
        see(net, 0, 1000);
        due(net, -1);
        Checks.equal(0, net.fireballs(10));
        Edges.refused(Checks.NO_SUCH, SightingsEdgesTest::oneAlone, lone -> lone.told(0, 0));
        see(net, 1, 1000);
        due(net, 0, 0);
        Checks.equal(1, net.fireballs(10));
    }

    private static FireNet oneAlone() {
        FireNet net = Nets.threeCameras();
        see(net, 0, 1000);
        return net;
    }

    // ---- beginning, end, speed and masses

    private static void facts(Checks checks) {
        checks.test("promise 10 \"the means of the places of all pairs that join directly\": not of the others",
                SightingsEdgesTest::pairsDirectly);
        checks.test("promise 10 \"-1 by 2 is -1\": means below 0", SightingsEdgesTest::minusOneByTwo);
        checks.test("promise 10 \"the greatest whole number whose square is not above\": 2600, 2601 and 2602",
                SightingsEdgesTest::roots);
        checks.test("promise 10 \"10 times the distance .. divided by the sum of their lengths\": rounded down",
                SightingsEdgesTest::speeds);
        checks.test("promise 10 \"light times length of all, divided by how many\": rounded down",
                SightingsEdgesTest::massesByLight);
        checks.test("promise 10 \"1000 times the greatest light, divided by (the speed and 1)\": also at speed 0",
                SightingsEdgesTest::massesBySpeed);
        checks.test("promise 10 \"as told last\": what is told follows the clocks", SightingsEdgesTest::toldAnew);
        checks.test("promise 10 \"a length\" and \"a light\": the least and the greatest that count",
                SightingsEdgesTest::leastAndGreatest);
    }

    /** Cameras 0 and 1 cross at 40, 40 and 45, 45; 1 and 2 at 30, 60 and 40, 60; 0 and 2 at 60, 60 twice. */
    private static FireNet threeWays(int lastSecond) {
        FireNet net = Nets.threeCameras();
        sight(net, 0, 1000, 1, 60, 1, 1, 1, 1);
        sight(net, 1, 1005, 1, 60, -1, 2, -1, 3);
        sight(net, 2, lastSecond, 1, 60, 1, 0, 1, 0);
        return net;
    }

    private static void pairsDirectly() {
        toldIs(threeWays(1005), 0, 0, 3, 4333, 5333, 4833, 5500);
        toldIs(threeWays(1006), 0, 0, 3, 3500, 5000, 4250, 5250);
        toldIs(threeWays(1010), 0, 0, 3, 3500, 5000, 4250, 5250);
    }

    /** The pairs begin at the heights 2.197.. and -2.195.., which are 219 and -220 hundredths. */
    private static void minusOneByTwo() {
        FireNet net = new FireNet();
        net.camera(0, 20, 0);
        net.camera(60, 30, 0);
        net.camera(0, 60, 0);
        sight(net, 0, 1000, 1, 60, 5, -3, 30, 20);
        sight(net, 1, 1005, 1, 60, -12, -11, -30, 10);
        toldIs(net, 0, 2, 219);
        sight(net, 2, 1010, 1, 60, 2, -5, 30, -20);
        toldIs(net, 0, 2, -1);
    }

    /** Cameras at 30, 30 and 31, 29 see flights in hundredths that end at 31, 30. */
    private static FireNet smallFlight(int x, int y, int length) {
        FireNet net = new FireNet();
        net.camera(30, 30, 0);
        net.camera(31, 29, 0);
        addSmallFlight(net, 10, x, y, length);
        return net;
    }

    private static int addSmallFlight(FireNet net, int night, int x, int y, int length) {
        net.begin(0, night, 1000, length, 100);
        int number = net.end(100 - x, -y, 1, 0);
        net.begin(1, night, 1000, length, 100);
        net.end(-x, 100 - y, 0, 1);
        Checks.equal(number, net.fireball(number));
        return number;
    }

    private static void roots() {
        toldIs(smallFlight(50, 10, 1), 0, 1, 3050, 2990, 3100, 3000, 500);
        toldIs(smallFlight(45, 24, 1), 0, 1, 3055, 2976, 3100, 3000, 510);
        toldIs(smallFlight(51, 1, 1), 0, 1, 3049, 2999, 3100, 3000, 510);
        toldIs(smallFlight(3, 4, 1), 0, 5, 50);
        toldIs(smallFlight(2, 2, 1), 0, 5, 20);
        toldIs(smallFlight(1, 1, 1), 0, 5, 10);
        toldIs(smallFlight(1, 0, 1), 0, 5, 10);
    }

    private static void speeds() {
        toldIs(smallFlight(10, 0, 10), 0, 5, 10);
        toldIs(smallFlight(10, 0, 11), 0, 5, 9);
        toldIs(smallFlight(3, 0, 30), 0, 5, 1);
        toldIs(smallFlight(2, 0, 30), 0, 5, 0);
        FireNet net = Nets.threeCameras();
        Nets.see(net, 0, 10, 1000, 3, 100, FROM, TO);
        Nets.see(net, 1, 10, 1000, 4, 100, FROM, TO);
        toldIs(net, 0, 5, 2857);
    }

    private static void massesByLight() {
        toldIs(lengthsAndLights(1, 50, 1, 51), 0, 6, 50);
        toldIs(lengthsAndLights(1, 51, 1, 51), 0, 6, 51);
        toldIs(lengthsAndLights(30, 1000, 30, 1000), 0, 6, 30000);
    }

    private static void massesBySpeed() {
        toldIs(smallFlight(1, 0, 30), 0, 5, 0);
        toldIs(smallFlight(1, 0, 30), 0, 7, 100000);
        toldIs(smallFlight(3, 0, 30), 0, 7, 50000);
        toldIs(smallFlight(6, 0, 30), 0, 7, 33333);
        FireNet still = Nets.threeCameras();
        Nets.fireball(still, 10, 1000, FROM, FROM);
        toldIs(still, 0, 5, 0, 200, 100000);
        FireNet fast = Nets.threeCameras();
        sight(fast, 0, 1000, 1, 50, 100, 1, 100, -99);
        sight(fast, 1, 1000, 1, 50, 99, 1, 99, -99);
        toldIs(fast, 0, 7, 0);
    }

    private static void toldAnew() {
        FireNet net = Nets.threeCameras();
        Nets.see(net, 0, 10, 1000, 2, 100, TO, Nets.at(30, 50));
        Nets.see(net, 1, 10, 1000, 2, 100, TO, Nets.at(30, 50));
        Nets.see(net, 2, 10, 1000, 20, 900, TO, Nets.at(30, 60));
        toldIs(net, 0, 0, 3);
        Checks.yes(net.told(0, 7) == 900000 / (net.told(0, 5) + 1));
        net.clock(2, 6);
        toldIs(net, 0, 0, 2, 3000, 4000, 3000, 5000, 5000, 200, 100000 / 5001);
        net.clock(2, 5);
        toldIs(net, 0, 0, 3);
        Checks.yes(net.told(0, 7) == 900000 / (net.told(0, 5) + 1));
    }

    private static void leastAndGreatest() {
        toldIs(lengthsAndLights(1, 50, 1, 1000), 0, 5, 10000, 525, 99);
        toldIs(lengthsAndLights(30, 50, 30, 1000), 0, 5, 333, 15750, 2994);
    }

    // ---- promises 7 and 8

    private static void fireball(Checks checks) {
        checks.test("promise 7 \"if there is no such sighting\": also while one is begun",
                SightingsEdgesTest::fireballNumbers);
        checks.test("promise 8 \"if there is no such sighting\": also while one is begun",
                SightingsEdgesTest::fireballAnewNumbers);
        checks.test("promises 7, 8 \"NONE if it is of none\"", SightingsEdgesTest::fireballNone);
        checks.test("promises 7, 8 \"if there is no such sighting\": the sixtieth is there",
                SightingsEdgesTest::lastSighting);
    }

    private static void fireballNumbers() {
        Edges.numbers(Scenes.SIGHTINGS, Scenes::rich, (net, sighting) -> net.fireball(sighting));
    }

    private static void fireballAnewNumbers() {
        Edges.numbers(Scenes.SIGHTINGS, Scenes::rich, (net, sighting) -> net.fireballAnew(sighting));
    }

    private static void fireballNone() {
        due(Scenes.rich(), 0, 0, 0, 3, 3, 5, 5, FireNet.NONE);
    }

    private static void lastSighting() {
        FireNet net = Scenes.sixtySightings();
        Checks.equal(5, net.fireball(Scenes.SIGHTINGS));
        Checks.equal(5, net.fireballAnew(Scenes.SIGHTINGS));
        Checks.equal(-1, net.fireball(59));
        Checks.equal(-1, net.fireballAnew(59));
        Edges.refused(Checks.NO_SUCH, Scenes::sixtySightings, full -> full.fireball(60));
        Edges.refused(Checks.NO_SUCH, Scenes::sixtySightings, full -> full.fireballAnew(60));
    }

    // ---- promise 9

    private static void fireballs(Checks checks) {
        checks.test("promise 9 \"night 0 to 3649\"", SightingsEdgesTest::fireballNights);
        checks.test("promise 9 \"how many\": of the first and the last night, not of those beside",
                SightingsEdgesTest::fireballsCounted);
        checks.test("promise 9 \"how many\": 30 of 60 sightings", SightingsEdgesTest::thirtyFireballs);
    }

    private static void fireballNights() {
        Edges.range(0, 3649, Scenes::rich, (net, night) -> Checks.equal(0, net.fireballs(night)));
    }

    private static void fireballsCounted() {
        FireNet net = Nets.threeCameras();
        Nets.fireball(net, 0, 1000, FROM, TO);
        Nets.fireball(net, 3649, 1000, FROM, TO);
        Nets.fireball(net, 3649, 1006, FROM, TO);
        Nets.see(net, 2, 3648, 1000, 2, 100, FROM, TO);
        Checks.equal(1, net.fireballs(0));
        Checks.equal(0, net.fireballs(1));
        Checks.equal(0, net.fireballs(3648));
        Checks.equal(2, net.fireballs(3649));
    }

    private static void thirtyFireballs() {
        FireNet net = Nets.threeCameras();
        for (int i = 0; i < 30; i++) {
            Checks.equal(i, net.fireballs(10));
            Checks.equal(2 * i, Nets.fireball(net, 10, 1000 + 6 * i, FROM, TO));
        }
        Checks.equal(30, net.fireballs(10));
        toldIs(net, 58, 0, 2, 3000, 3000, 3000, 4000);
    }

    // ---- promise 10

    private static void told(Checks checks) {
        checks.test("promise 10 \"if there is no such fireball\": no sighting at all", SightingsEdgesTest::toldNumbers);
        checks.test("promise 10 \"no such fireball\": a sighting that is not its lowest, or alone",
                SightingsEdgesTest::toldNotLowest);
        checks.test("promise 10 \"no such fireball\": no longer, as clocks are told", SightingsEdgesTest::toldNoLonger);
        checks.test("promise 10 \"what 0 .. 7\"", SightingsEdgesTest::toldWhat);
        checks.test("promise 10: IndexOutOfBoundsException comes ahead of IllegalArgumentException",
                SightingsEdgesTest::toldOrder);
    }

    private static void toldNumbers() {
        Edges.refusedEach(Checks.NO_SUCH, Scenes::rich, (net, fireball) -> net.told(fireball, 0), Integer.MIN_VALUE, -1,
                Scenes.SIGHTINGS, 59, 60, Integer.MAX_VALUE);
    }

    private static void toldNotLowest() {
        Edges.refusedEach(Checks.NO_SUCH, Scenes::rich, (net, fireball) -> net.told(fireball, 0), Scenes.NOT_LOWEST, 2,
                4, 6, Scenes.ALONE);
        Edges.taken(Scenes::rich, (net, fireball) -> net.told(fireball, 0), Scenes.FIREBALLS);
    }

    private static FireNet noLonger() {
        FireNet net = Scenes.rich();
        net.clock(0, 50);
        return net;
    }

    private static void toldNoLonger() {
        Edges.refusedEach(Checks.NO_SUCH, SightingsEdgesTest::noLonger, (net, fireball) -> net.told(fireball, 0), 0, 3,
                5);
        toldIs(noLonger(), 1, 0, 2);
    }

    private static void toldWhat() {
        Edges.range(0, 7, Scenes::rich, (net, what) -> Checks.equal(what == 0 ? 2 : 77, net.told(5, what)));
    }

    private static void toldOrder() {
        for (int fireball : new int[] {-1, Scenes.NOT_LOWEST, Scenes.ALONE, Scenes.SIGHTINGS, 60}) {
            Edges.refusedEach(Checks.NO_SUCH, Scenes::rich, (net, what) -> net.told(fireball, what), -1, 8);
        }
    }

    // ---- promise 11

    private static void stream(Checks checks) {
        checks.test("promise 11 \"if there is no such fireball, of either\"", SightingsEdgesTest::streamNumbers);
        checks.test("promise 11 \"or the same\"", SightingsEdgesTest::streamSame);
        checks.test("promise 11 \"their speeds differ by at most a tenth of the greater one\"",
                SightingsEdgesTest::streamTenth);
        checks.test("promise 11 \"a tenth of the greater one\": at the speeds 0 and 1", SightingsEdgesTest::streamSlow);
        checks.test("promise 11 \"neither has its end at its beginning\"", SightingsEdgesTest::streamStill);
        checks.test("promise 11 \"10 times .. is at most\": as much, and one more", SightingsEdgesTest::streamAlike);
        checks.test("promise 11 \"and that is above 0\": 1, 0 and below", SightingsEdgesTest::streamAbove);
    }

    private static void streamNumbers() {
        for (int none : new int[] {Integer.MIN_VALUE, -1, Scenes.NOT_LOWEST, Scenes.ALONE, 8, 60, Integer.MAX_VALUE}) {
            Edges.refused(Checks.NO_SUCH, Scenes::rich, net -> net.stream(none, 0));
            Edges.refused(Checks.NO_SUCH, Scenes::rich, net -> net.stream(0, none));
            Edges.refused(Checks.NO_SUCH, Scenes::rich, net -> net.stream(none, none));
        }
    }

    private static void streamSame() {
        FireNet net = Scenes.rich();
        for (int fireball : Scenes.FIREBALLS) {
            Checks.yes(net.stream(fireball, fireball));
        }
    }

    /** Flights in hundredths, each with the length in seconds of both of its sightings. */
    private static void inStream(boolean due, int[] flight, int[] other) {
        FireNet net = smallFlight(flight[0], flight[1], flight[2]);
        int second = addSmallFlight(net, 11, other[0], other[1], other[2]);
        Checks.equal(due ? 1 : 0, net.stream(0, second) ? 1 : 0);
        Checks.equal(due ? 1 : 0, net.stream(second, 0) ? 1 : 0);
    }

    private static int[] flight(int x, int y, int length) {
        return new int[] {x, y, length};
    }

    private static void speedsInStream(boolean due, int[] flight, int speed, int[] other, int otherSpeed) {
        toldIs(smallFlight(flight[0], flight[1], flight[2]), 0, 5, speed);
        toldIs(smallFlight(other[0], other[1], other[2]), 0, 5, otherSpeed);
        inStream(due, flight, other);
    }

    private static void streamTenth() {
        speedsInStream(true, flight(10, 0, 1), 100, flight(9, 0, 1), 90);
        speedsInStream(false, flight(10, 0, 1), 100, flight(89, 0, 10), 89);
        speedsInStream(true, flight(91, 0, 9), 101, flight(91, 0, 10), 91);
        speedsInStream(false, flight(91, 0, 9), 101, flight(9, 0, 1), 90);
        speedsInStream(true, flight(1, 0, 1), 10, flight(9, 0, 10), 9);
        speedsInStream(false, flight(9, 0, 10), 9, flight(8, 0, 10), 8);
    }

    private static void streamSlow() {
        speedsInStream(true, flight(1, 0, 30), 0, flight(2, 0, 30), 0);
        speedsInStream(false, flight(1, 0, 30), 0, flight(3, 0, 30), 1);
        speedsInStream(true, flight(3, 0, 30), 1, flight(4, 0, 30), 1);
        speedsInStream(false, flight(3, 0, 30), 1, flight(6, 0, 30), 2);
    }

    private static void streamStill() {
        FireNet net = Nets.threeCameras();
        int still = Nets.fireball(net, 10, 1000, FROM, FROM);
        int stillToo = Nets.fireball(net, 11, 1000, TO, TO);
        int moves = Nets.fireball(net, 12, 1000, FROM, TO);
        Checks.no(net.stream(still, still));
        Checks.no(net.stream(still, stillToo));
        Checks.no(net.stream(still, moves));
        Checks.no(net.stream(moves, still));
        FireNet slow = smallFlight(1, 0, 30);
        int slowStill = addSmallFlight(slow, 11, 0, 0, 30);
        Checks.equal(0, slow.told(0, 5));
        Checks.no(slow.stream(0, slowStill));
        Checks.no(slow.stream(slowStill, 0));
        Checks.yes(slow.stream(0, 0));
    }

    private static void streamAlike() {
        inStream(true, flight(1, 0, 1), flight(10, 1, 10));
        inStream(false, flight(1, 0, 1), flight(9, 1, 9));
        inStream(true, flight(1, 0, 1), flight(11, 1, 11));
        inStream(true, flight(0, 1, 1), flight(1, 10, 10));
        inStream(false, flight(0, 1, 1), flight(1, 9, 9));
        inStream(true, flight(50, 0, 1), flight(50, 5, 1));
        inStream(false, flight(50, 0, 1), flight(50, 6, 1));
        inStream(true, flight(11, 9, 1), flight(10, 10, 1));
        inStream(false, flight(12, 9, 1), flight(11, 11, 1));
    }

    private static void streamAbove() {
        inStream(true, flight(1, 0, 1), flight(1, 0, 1));
        inStream(false, flight(1, 0, 1), flight(0, 1, 1));
        inStream(false, flight(30, 0, 1), flight(0, 30, 1));
        FireNet net = Nets.threeCameras();
        int there = Nets.fireball(net, 10, 1000, FROM, TO);
        int back = Nets.fireball(net, 11, 1000, TO, FROM);
        Checks.equal(net.told(there, 5), net.told(back, 5));
        Checks.no(net.stream(there, back));
        Checks.no(net.stream(back, there));
    }

    // ---- promise 12

    private static void flux(Checks checks) {
        checks.test("promise 12 \"from 0 to 3649\"", SightingsEdgesTest::fluxFrom);
        checks.test("promise 12 \"to from to 3649\"", SightingsEdgesTest::fluxTo);
        checks.test("promise 12 \"mass 0 to 100000\"", SightingsEdgesTest::fluxMass);
        checks.test("promise 12 \"in the nights from one to another one\": both are in, those beside aren't",
                SightingsEdgesTest::fluxNights);
        checks.test("promise 12 \"a mass by light of at least some\"", SightingsEdgesTest::fluxAtLeast);
        checks.test("promise 12 \"of these nights without clouds\": of the first and the last, not of those beside",
                SightingsEdgesTest::fluxClouds);
        checks.test("promise 12 \"0 if that is 0\": no cameras, or clouds over all", SightingsEdgesTest::fluxOfNothing);
        checks.test("promise 12 \"times 1000, divided by\": rounded down, also to 0", SightingsEdgesTest::fluxRounded);
        checks.test("promise 12 \"over all cameras\": ten, and all nights", SightingsEdgesTest::fluxOfAll);
    }

    private static void fluxFrom() {
        Edges.range(0, 3649, Scenes::rich, (net, from) -> Checks.equal(0, net.flux(from, 3649, 0)));
    }

    private static void fluxTo() {
        Edges.range(20, 3649, Scenes::rich, (net, to) -> Checks.equal(to == 20 ? 250 : 0, net.flux(20, to, 0)));
        Edges.range(0, 3649, Scenes::rich, (net, to) -> Checks.equal(0, net.flux(0, to, 0)));
        Edges.range(3649, 3649, Scenes::rich, (net, to) -> Checks.equal(0, net.flux(3649, to, 0)));
    }

    private static void fluxMass() {
        Edges.range(0, 100000, Scenes::rich, (net, mass) ->
                Checks.equal(mass == 0 ? 666 : 0, net.flux(10, 10, mass)));
    }

    /** Three fireballs: two in the night 10, one in the night 20; four cameras, three nights of which were cloudy. */
    private static void fluxNights() {
        FireNet net = Scenes.rich();
        Checks.equal(3000 / 41, net.flux(10, 20, 0));
        Checks.equal(1000 / 38, net.flux(11, 20, 0));
        Checks.equal(2000 / 37, net.flux(10, 19, 0));
        Checks.equal(0, net.flux(11, 19, 0));
        Checks.equal(1000 / 4, net.flux(20, 20, 0));
        Checks.equal(0, net.flux(9, 9, 0));
        Checks.equal(0, net.flux(21, 21, 0));
        Checks.equal(2000 / 7, net.flux(9, 10, 0));
        Checks.equal(1000 / 8, net.flux(20, 21, 0));
    }

    private static void fluxAtLeast() {
        FireNet net = Scenes.rich();
        toldIs(net, 0, 6, 400);
        toldIs(net, 3, 6, 110);
        Checks.equal(666, net.flux(10, 10, 110));
        Checks.equal(333, net.flux(10, 10, 111));
        Checks.equal(333, net.flux(10, 10, 400));
        Checks.equal(0, net.flux(10, 10, 401));
        FireNet greatest = lengthsAndLights(30, 1000, 30, 1000);
        Checks.equal(333, greatest.flux(10, 10, 30000));
        Checks.equal(0, greatest.flux(10, 10, 30001));
    }

    private static void fluxClouds() {
        FireNet net = Nets.oneFireball();
        Checks.equal(1000 / 9, net.flux(9, 11, 0));
        net.cloud(0, 8);
        net.cloud(0, 12);
        Checks.equal(1000 / 9, net.flux(9, 11, 0));
        net.cloud(0, 9);
        Checks.equal(1000 / 8, net.flux(9, 11, 0));
        net.cloud(1, 11);
        Checks.equal(1000 / 7, net.flux(9, 11, 0));
        net.cloud(2, 10);
        Checks.equal(1000 / 6, net.flux(9, 11, 0));
        Checks.equal(1000 / 2, net.flux(10, 10, 0));
    }

    private static void fluxOfNothing() {
        FireNet net = new FireNet();
        Checks.equal(0, net.flux(0, 3649, 0));
        net.camera(5, 5, 0);
        net.camera(6, 6, 0);
        net.cloud(0, 7);
        Checks.equal(0, net.flux(7, 7, 0));
        net.cloud(1, 7);
        Checks.equal(0, net.flux(7, 7, 0));
        Checks.equal(0, net.flux(7, 8, 0));
    }

    private static void fluxRounded() {
        FireNet net = Nets.oneFireball();
        Checks.equal(333, net.flux(10, 10, 0));
        Checks.equal(1, net.flux(0, 332, 0));
        Checks.equal(1, net.flux(10, 342, 0));
        Checks.equal(0, net.flux(0, 333, 0));
        Checks.equal(0, net.flux(10, 343, 0));
    }

    private static void fluxOfAll() {
        FireNet net = new FireNet();
        for (int i = 0; i < 10; i++) {
            net.camera(i, 0, 0);
        }
        for (int i = 0; i < 37; i++) {
            net.begin(i % 10, 100 + i / 2 * 2, 1000, 1, 100);
            net.end(10 - i % 10, 10, 10 - i % 10, 20);
        }
        Checks.equal(0, net.flux(0, 3649, 0));
        Checks.equal(18, fireballsOfAll(net));
        Checks.equal(18 * 1000 / 360, net.flux(100, 135, 0));
        Checks.equal(18 * 1000 / 370, net.flux(99, 135, 0));
        Checks.equal(18 * 1000 / 370, net.flux(100, 136, 0));
    }

    private static int fireballsOfAll(FireNet net) {
        int count = 0;
        for (int night = 100; night <= 136; night++) {
            count += net.fireballs(night);
        }
        return count;
    }
}

/** Promises 7 to 12: sightings that join, and what is told of fireballs, streams and the flux. */
public final class SightingsTest {
    private SightingsTest() {
    }

    public static void main(String[] args) {
        Checks checks = new Checks();
        checks.test("promises 7, 8: at most 5 seconds apart", SightingsTest::secondsApart);
        checks.test("promises 7, 8: clocks that are wrong, as told last", SightingsTest::clocks);
        checks.test("promises 7, 8: right seconds below 0", SightingsTest::secondsBelowZero);
        checks.test("promises 7, 8: one night and two cameras", SightingsTest::nightsAndCameras);
        checks.test("promises 7, 8: sightings that count", SightingsTest::thatCount);
        checks.test("promises 7, 8: parallel rays", SightingsTest::parallelRays);
        checks.test("promises 7, 8: rays that cross behind a camera", SightingsTest::raysBehind);
        checks.test("promises 7, 8: rays that cross at a camera", SightingsTest::raysAtCamera);
        checks.test("promises 7, 8: sightings that join over others", SightingsTest::joinOverOthers);
        checks.test("promises 7, 8: the lowest number, by a long chain", SightingsTest::longChain);
        checks.test("promise 9: fireballs of a night", SightingsTest::fireballsOfNight);
        checks.test("promise 10: what is told of a fireball", SightingsTest::toldOfFireball);
        checks.test("promise 10: means of the pairs that join directly", SightingsTest::means);
        checks.test("promise 10: places are rounded down", SightingsTest::placesRounded);
        checks.test("promise 10: speeds and masses are rounded down", SightingsTest::speedsRounded);
        checks.test("promise 10: a fireball that stands still", SightingsTest::standsStill);
        checks.test("promise 10: far places", SightingsTest::farPlaces);
        checks.test("promise 11: speeds in a stream", SightingsTest::streamSpeeds);
        checks.test("promise 11: flights in a stream", SightingsTest::streamFlights);
        checks.test("promise 11: no stream without a flight", SightingsTest::streamStanding);
        checks.test("promise 11: the smallest flight", SightingsTest::streamSmallFlight);
        checks.test("promise 12: the flux, corrected for clouds", SightingsTest::fluxCounts);
        checks.test("promise 12: nothing seen, no clear night", SightingsTest::fluxOfNothing);
        checks.finish();
    }

    private static final int[] FROM = {30, 30};
    private static final int[] TO = {30, 40};

    private static void see(FireNet net, int camera, int second) {
        Nets.see(net, camera, 10, second, 2, 100, FROM, TO);
    }

    private static void due(FireNet net, int... fireballs) {
        for (int i = 0; i < fireballs.length; i++) {
            Checks.equal(fireballs[i], net.fireball(i));
            Checks.equal(fireballs[i], net.fireballAnew(i));
        }
    }

    private static void secondsApart() {
        FireNet net = Nets.threeCameras();
        see(net, 0, 1000);
        due(net, -1);
        see(net, 1, 1005);
        due(net, 0, 0);
        FireNet ahead = Nets.threeCameras();
        see(ahead, 0, 1000);
        see(ahead, 1, 995);
        due(ahead, 0, 0);
        FireNet late = Nets.threeCameras();
        see(late, 0, 1000);
        see(late, 1, 1006);
        see(late, 2, 994);
        due(late, -1, -1, -1);
    }

    private static void clocks() {
        FireNet net = Nets.threeCameras();
        see(net, 0, 1000);
        see(net, 1, 1008);
        due(net, -1, -1);
        net.clock(1, 3);
        due(net, 0, 0);
        net.clock(1, 2);
        due(net, -1, -1);
        net.clock(0, -1);
        due(net, 0, 0);
        Checks.refused(Checks.OUT_OF_RANGE, () -> net.clock(0, 100));
        due(net, 0, 0);
        net.clock(2, -40);
        see(net, 2, 960);
        due(net, 0, 0, 0);
        net.clock(0, 99);
        due(net, -1, -1, -1);
    }

    private static void secondsBelowZero() {
        FireNet net = Nets.threeCameras();
        net.clock(0, 50);
        net.clock(1, 45);
        see(net, 0, 0);
        see(net, 1, 0);
        due(net, 0, 0);
        net.clock(1, 44);
        due(net, -1, -1);
    }

    private static void nightsAndCameras() {
        FireNet net = Nets.threeCameras();
        Nets.see(net, 0, 10, 86399, 2, 100, FROM, TO);
        Nets.see(net, 1, 11, 0, 2, 100, FROM, TO);
        Nets.see(net, 1, 11, 86399, 2, 100, FROM, TO);
        due(net, -1, -1, -1);
        FireNet alone = Nets.threeCameras();
        Nets.see(alone, 0, 10, 1000, 2, 100, FROM, TO);
        Nets.see(alone, 0, 10, 1000, 2, 100, FROM, TO);
        Nets.see(alone, 0, 10, 1000, 2, 100, Nets.at(31, 30), Nets.at(5, 40));
        due(alone, -1, -1, -1);
        Nets.see(alone, 1, 10, 1000, 2, 100, FROM, TO);
        due(alone, 0, 0, 0, 0);
    }

    private static void thatCount() {
        due(pairOf(30, 50), 0, 0);
        due(pairOf(31, 50), -1, -1);
        due(pairOf(30, 49), -1, -1);
        due(pairOf(1, 1000), 0, 0);
        due(pairOf(60, 1000), -1, -1);
        FireNet last = Nets.threeCameras();
        Nets.see(last, 0, 10, 1000, 2, 100, FROM, TO);
        Nets.see(last, 1, 10, 1000, 31, 100, FROM, TO);
        Nets.see(last, 2, 10, 1000, 2, 49, FROM, TO);
        due(last, -1, -1, -1);
    }

    private static FireNet pairOf(int length, int light) {
        FireNet net = Nets.threeCameras();
        Nets.see(net, 0, 10, 1000, length, light, FROM, TO);
        Nets.see(net, 1, 10, 1000, 2, 100, FROM, TO);
        return net;
    }

    /** Sightings by the cameras 0 at 0, 0 and 1 at 60, 0, whose other rays cross. */
    private static FireNet beginning(int oneX, int oneY, int otherX, int otherY) {
        FireNet net = Nets.threeCameras();
        net.begin(0, 10, 1000, 2, 100);
        net.end(oneX, oneY, 1, 1);
        net.begin(1, 10, 1000, 2, 100);
        net.end(otherX, otherY, -1, 1);
        return net;
    }

    private static FireNet ending(int oneX, int oneY, int otherX, int otherY) {
        FireNet net = Nets.threeCameras();
        net.begin(0, 10, 1000, 2, 100);
        net.end(1, 1, oneX, oneY);
        net.begin(1, 10, 1000, 2, 100);
        net.end(-1, 1, otherX, otherY);
        return net;
    }

    private static void parallelRays() {
        due(beginning(1, 1, 1, 1), -1, -1);
        due(beginning(2, 2, 3, 3), -1, -1);
        due(beginning(1, 1, -1, -1), -1, -1);
        due(beginning(1, 0, -1, 0), -1, -1);
        due(ending(1, 1, 1, 1), -1, -1);
        due(ending(1, 0, -1, 0), -1, -1);
        due(beginning(1, 2, -1, 1), 0, 0);
        due(ending(1, 2, -1, 1), 0, 0);
        due(beginning(100, 99, 99, 98), -1, -1);
        due(beginning(100, 99, 99, 100), 0, 0);
        due(beginning(99, 100, 98, 100), 0, 0);
    }

    private static void raysBehind() {
        due(beginning(1, 1, 1, -1), -1, -1);
        due(beginning(-1, -1, -1, 1), -1, -1);
        due(beginning(-1, -1, 1, -1), -1, -1);
        due(ending(1, 1, 1, -1), -1, -1);
        due(ending(-1, -1, -1, 1), -1, -1);
        due(ending(-1, -1, 1, -1), -1, -1);
        due(beginning(1, -1, -1, -1), 0, 0);
        due(ending(1, -1, -1, -1), 0, 0);
    }

    private static void raysAtCamera() {
        due(beginning(1, 0, 0, 1), -1, -1);
        due(beginning(0, 1, -1, 0), -1, -1);
        due(ending(1, 0, 0, 1), -1, -1);
        due(ending(0, 1, -1, 0), -1, -1);
        FireNet net = new FireNet();
        net.camera(20, 20, 0);
        net.camera(20, 20, 0);
        for (int i = 0; i < 2; i++) {
            net.begin(i, 10, 1000, 2, 100);
            net.end(1 + i, 1, -1 - i, 1);
        }
        due(net, -1, -1);
    }

    private static void joinOverOthers() {
        FireNet net = Nets.threeCameras();
        see(net, 0, 1000);
        see(net, 1, 1000);
        see(net, 0, 1010);
        see(net, 1, 1010);
        due(net, 0, 0, 2, 2);
        Checks.equal(2, net.told(2, 0));
        see(net, 2, 1005);
        due(net, 0, 0, 0, 0, 0);
        Checks.equal(5, net.told(0, 0));
        Checks.refused(Checks.NO_SUCH, () -> net.told(2, 0));
        net.clock(2, 1);
        due(net, 0, 0, 2, 2, 0);
        Checks.equal(3, net.told(0, 0));
        Checks.equal(2, net.told(2, 0));
    }

    /** Each sighting of the chain joins just the two that are 5 seconds apart from it. */
    private static void longChain() {
        FireNet net = Nets.threeCameras();
        for (int i = 0; i < 59; i++) {
            int step = (i * 7 + 30) % 59;
            Nets.see(net, step % 3, 10, 1000 + 5 * step, 2, 100, Nets.at(30, 40), Nets.at(30, 50));
        }
        Checks.equal(59, net.told(0, 0));
        for (int i = 0; i < 59; i++) {
            Checks.equal(0, net.fireball(i));
            Checks.equal(0, net.fireballAnew(i));
        }
        Checks.equal(59, Nets.see(net, 0, 11, 1000, 2, 100, FROM, TO));
        Checks.equal(-1, net.fireball(59));
        Checks.equal(-1, net.fireballAnew(59));
    }

    private static void fireballsOfNight() {
        FireNet net = Nets.threeCameras();
        Nets.fireball(net, 0, 1000, FROM, TO);
        Nets.fireball(net, 3649, 1000, FROM, TO);
        Nets.fireball(net, 3649, 1100, FROM, TO);
        Nets.see(net, 0, 3649, 1200, 2, 100, FROM, TO);
        Checks.equal(1, net.fireballs(0));
        Checks.equal(2, net.fireballs(3649));
        Checks.equal(0, net.fireballs(1));
        Checks.equal(0, net.fireballs(3648));
        Nets.see(net, 1, 3649, 1205, 2, 100, FROM, TO);
        Checks.equal(3, net.fireballs(3649));
        Checks.refused(Checks.OUT_OF_RANGE, () -> net.fireballs(-1));
        Checks.refused(Checks.OUT_OF_RANGE, () -> net.fireballs(3650));
        net.clock(0, 6);
        Checks.equal(0, net.fireballs(0));
        Checks.equal(0, net.fireballs(3649));
    }

    private static void toldOfFireball() {
        FireNet net = Nets.threeCameras();
        Nets.see(net, 0, 10, 1000, 2, 100, FROM, TO);
        Nets.see(net, 1, 10, 1000, 3, 200, FROM, TO);
        toldIs(net, 0, 2, 3000, 3000, 3000, 4000, 4000, 400, 49);
    }

    private static void toldIs(FireNet net, int fireball, long... due) {
        for (int what = 0; what < due.length; what++) {
            Checks.equal(due[what], net.told(fireball, what));
        }
    }

    private static void sight(FireNet net, int camera, int second, int length, int light, int... ways) {
        net.begin(camera, 10, second, length, light);
        net.end(ways[0], ways[1], ways[2], ways[3]);
    }

    /** Cameras 0 and 1 cross at 40, 40 and 45, 45; 1 and 2 at 30, 60 and 40, 60; 0 and 2 at 60, 60 twice. */
    private static FireNet threeWays(int lastSecond) {
        FireNet net = Nets.threeCameras();
        sight(net, 0, 1000, 1, 60, 1, 1, 1, 1);
        sight(net, 1, 1005, 1, 60, -1, 2, -1, 3);
        sight(net, 2, lastSecond, 1, 60, 1, 0, 1, 0);
        return net;
    }

    private static void means() {
        toldIs(threeWays(1010), 0, 3, 3500, 5000, 4250, 5250, 7900, 60, 7);
        toldIs(threeWays(1005), 0, 3, 4333, 5333, 4833, 5500, 5270, 60, 11);
    }

    private static void placesRounded() {
        FireNet net = Nets.threeCameras();
        sight(net, 0, 1000, 1, 60, -2, 3, -2, -3);
        sight(net, 1, 1000, 1, 60, -5, 1, -5, -1);
        toldIs(net, 0, 2, -924, 1384, -924, -1385, 27690, 60, 2);
        FireNet swapped = Nets.threeCameras();
        sight(swapped, 1, 1000, 1, 60, -5, 1, -5, -1);
        sight(swapped, 0, 1000, 1, 60, -2, 3, -2, -3);
        toldIs(swapped, 0, 2, -924, 1384, -924, -1385, 27690, 60, 2);
    }

    /** The places are -667, 666 and -1000, 1000 and, of the ends, 5333, -5334 and 4500, -4500. */
    private static void speedsRounded() {
        FireNet net = Nets.threeCameras();
        sight(net, 0, 1000, 7, 50, -1, 1, 1, -1);
        sight(net, 1, 1000, 8, 60, -10, 1, -1, -8);
        sight(net, 1, 1000, 9, 71, -7, 1, -1, -3);
        toldIs(net, 0, 3, -834, 833, 4916, -4917, 10163, 489, 6);
        FireNet slow = Nets.threeCameras();
        Nets.see(slow, 0, 10, 1000, 3, 100, FROM, Nets.at(31, 31));
        Nets.see(slow, 1, 10, 1000, 4, 99, FROM, Nets.at(31, 31));
        toldIs(slow, 0, 2, 3000, 3000, 3100, 3100, 402, 348, 248);
    }

    private static void standsStill() {
        FireNet net = Nets.threeCameras();
        Nets.fireball(net, 10, 1000, FROM, FROM);
        toldIs(net, 0, 2, 3000, 3000, 3000, 3000, 0, 200, 100000);
    }

    private static FireNet farFireball() {
        FireNet net = new FireNet();
        net.camera(0, 0, 0);
        net.camera(99, 0, 0);
        sight(net, 0, 1000, 1, 100, -100, -99, 99, 98);
        sight(net, 1, 1000, 1, 100, -99, -98, 100, 99);
        return net;
    }

    private static void farPlaces() {
        FireNet net = farFireball();
        Checks.equal(-97020000, net.told(0, 1));
        Checks.equal(-96049800, net.told(0, 2));
        Checks.equal(97029900, net.told(0, 3));
        Checks.equal(96049800, net.told(0, 4));
        Checks.equal(2730524120L, net.told(0, 5));
        Checks.equal(0, net.told(0, 7));
        Checks.yes(net.stream(0, 0));
        Checks.equal(0, net.chance(0, 50, 50));
    }

    private static int moving(FireNet net, int night, int length, int otherLength, int[] from, int[] to) {
        int number = Nets.see(net, 0, night, 1000, length, 100, from, to);
        Nets.see(net, 1, night, 1000, otherLength, 100, from, to);
        return number;
    }

    private static void streamSpeeds() {
        FireNet net = Nets.threeCameras();
        int fast = moving(net, 10, 25, 25, FROM, Nets.at(31, 30));
        int tenthLess = moving(net, 11, 27, 28, FROM, Nets.at(31, 30));
        int slower = moving(net, 12, 28, 28, FROM, Nets.at(31, 30));
        Checks.equal(40, net.told(fast, 5));
        Checks.equal(36, net.told(tenthLess, 5));
        Checks.equal(35, net.told(slower, 5));
        Checks.yes(net.stream(fast, tenthLess));
        Checks.yes(net.stream(tenthLess, fast));
        Checks.no(net.stream(fast, slower));
        Checks.no(net.stream(slower, fast));
        Checks.yes(net.stream(tenthLess, slower));
        Checks.yes(net.stream(slower, slower));
        int odd = moving(net, 13, 25, 26, FROM, Nets.at(31, 30));
        Checks.equal(39, net.told(odd, 5));
        Checks.no(net.stream(odd, slower));
        Checks.no(net.stream(slower, odd));
    }

    private static boolean alike(int x, int y, int otherX, int otherY) {
        FireNet net = Nets.threeCameras();
        int one = moving(net, 10, 10, 10, FROM, Nets.at(30 + x, 30 + y));
        int other = moving(net, 500, 10, 10, Nets.at(25, 35), Nets.at(25 + otherX, 35 + otherY));
        boolean is = net.stream(one, other);
        Checks.equal(is ? 1 : 0, net.stream(other, one) ? 1 : 0);
        return is;
    }

    private static void streamFlights() {
        Checks.yes(alike(10, 0, 10, 0));
        Checks.yes(alike(10, 0, 10, 1));
        Checks.yes(alike(10, 0, 10, -1));
        Checks.yes(alike(0, 10, 1, 10));
        Checks.yes(alike(0, -10, -1, -10));
        Checks.yes(alike(7, 7, 7, 8));
        Checks.no(alike(9, 0, 9, 1));
        Checks.no(alike(9, 0, 9, -1));
        Checks.no(alike(10, 0, -10, 0));
        Checks.no(alike(10, 0, 0, 10));
        Checks.no(alike(7, 7, -7, -7));
        Checks.no(alike(7, 7, 7, -7));
    }

    private static void streamStanding() {
        FireNet net = Nets.threeCameras();
        int still = moving(net, 10, 2, 2, FROM, FROM);
        int stillToo = moving(net, 11, 2, 2, TO, TO);
        int moves = moving(net, 12, 2, 2, FROM, TO);
        Checks.no(net.stream(still, stillToo));
        Checks.no(net.stream(still, still));
        Checks.no(net.stream(still, moves));
        Checks.no(net.stream(moves, still));
        Checks.yes(net.stream(moves, moves));
    }

    private static void streamSmallFlight() {
        FireNet net = Nets.threeCameras();
        sight(net, 0, 1000, 1, 100, 1, 5, 5, 24);
        sight(net, 1, 1000, 1, 100, -29, 1, -29, 1);
        toldIs(net, 0, 2, 41, 205, 42, 205, 10, 100, 9090);
        Checks.yes(net.stream(0, 0));
    }

    /** Two fireballs in the night 10, of the masses 200 and 600, and one of 200 in the night 12. */
    private static FireNet threeFireballs() {
        FireNet net = Nets.threeCameras();
        Nets.fireball(net, 10, 1000, FROM, TO);
        Nets.see(net, 0, 10, 2000, 2, 300, FROM, TO);
        Nets.see(net, 1, 10, 2000, 2, 300, FROM, TO);
        Nets.fireball(net, 12, 1000, FROM, TO);
        return net;
    }

    private static void fluxCounts() {
        FireNet net = threeFireballs();
        Checks.equal(333, net.flux(10, 12, 0));
        net.cloud(2, 10);
        net.cloud(2, 13);
        net.cloud(0, 9);
        Checks.equal(375, net.flux(10, 12, 0));
        Checks.equal(1000, net.flux(10, 10, 0));
        Checks.equal(375, net.flux(10, 12, 200));
        Checks.equal(125, net.flux(10, 12, 201));
        Checks.equal(125, net.flux(10, 12, 600));
        Checks.equal(0, net.flux(10, 12, 601));
        Checks.equal(166, net.flux(11, 12, 0));
        Checks.equal(0, net.flux(11, 11, 0));
        Checks.equal(250, net.flux(9, 13, 0));
        net.camera(50, 50, 0);
        Checks.equal(272, net.flux(10, 12, 0));
        Checks.equal(0, net.flux(0, 3649, 0));
    }

    private static void fluxOfNothing() {
        FireNet net = new FireNet();
        Checks.equal(0, net.flux(0, 3649, 0));
        net.camera(5, 5, 0);
        Checks.equal(0, net.flux(5, 5, 0));
        net.cloud(0, 5);
        Checks.equal(0, net.flux(5, 5, 0));
        Checks.equal(0, net.flux(5, 6, 0));
    }
}

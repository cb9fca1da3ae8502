/** Promises 13 to 15 and 17: winds, walks, chances, and the falls of stones. */
public final class FieldsTest {
    private FieldsTest() {
    }

    public static void main(String[] args) {
        Checks checks = new Checks();
        checks.test("promise 13: the wind of the night, told last", FieldsTest::windMovesPieces);
        checks.test("promise 13: strong winds, and those below 0", FieldsTest::strongWinds);
        checks.test("promise 14: a walk in vain makes the weight smaller", FieldsTest::walkInVain);
        checks.test("promise 14: walks in their order, each rounded down", FieldsTest::walksInOrder);
        checks.test("promise 14: walks are for the number of a fireball", FieldsTest::walksOfNumber);
        checks.test("promise 15: chances by distance", FieldsTest::chanceByDistance);
        checks.test("promise 15: fields at the edge of the ground", FieldsTest::edgeOfGround);
        checks.test("promise 15: fields beyond the ground", FieldsTest::beyondGround);
        checks.test("promise 17: of its night or of one ahead", FieldsTest::fallByNight);
        checks.test("promise 17: the greatest chance, of several the lowest", FieldsTest::fallByChance);
        checks.test("promise 17: the least chance that is not 0", FieldsTest::fallBySmallChance);
        checks.test("promise 17: none if all are 0", FieldsTest::fallOfNone);
        checks.test("promise 17: falls follow clocks, winds and walks", FieldsTest::fallFollows);
        checks.finish();
    }

    private static FireNet endingAt(int x, int y) {
        FireNet net = Nets.threeCameras();
        Nets.fireball(net, 10, 1000, Nets.at(30, 30), Nets.at(x, y));
        return net;
    }

    private static void windMovesPieces() {
        FireNet net = Nets.oneFireball();
        net.wind(10, 1, 0);
        Checks.equal(10588, net.chance(0, 31, 40));
        Checks.equal(11470, net.chance(0, 30, 40));
        net.wind(10, -1, 0);
        Checks.equal(11764, net.chance(0, 29, 40));
        net.wind(10, 0, 1);
        Checks.equal(11470, net.chance(0, 30, 40));
        Checks.equal(10588, net.chance(0, 30, 41));
        net.wind(11, 20, 20);
        net.wind(9, 20, 20);
        Checks.equal(11470, net.chance(0, 30, 40));
        net.wind(10, 0, 0);
        Checks.equal(11764, net.chance(0, 30, 40));
    }

    /** The pieces fall 20, 16, 12, 8 and 4 cells away. */
    private static void strongWinds() {
        FireNet net = Nets.oneFireball();
        net.wind(10, 20, 0);
        Checks.equal((4 + 8 + 4) * 1000000 / 3400, net.chance(0, 38, 40));
        Checks.equal((8 + 4) * 1000000 / 3400, net.chance(0, 34, 40));
        Checks.equal((8 + 4) * 1000000 / 3400, net.chance(0, 50, 40));
        Checks.equal(1000000 / 3400, net.chance(0, 57, 40));
        Checks.equal(0, net.chance(0, 58, 40));
        net.wind(10, 0, -20);
        Checks.equal((8 + 4) * 1000000 / 3400, net.chance(0, 30, 20));
        Checks.equal(1000000 / 3400, net.chance(0, 30, 13));
        Checks.equal(0, net.chance(0, 30, 12));
        Checks.equal(1000000 / 3400, net.chance(0, 30, 43));
    }

    private static void walkInVain() {
        FireNet net = Nets.oneFireball();
        Checks.equal(5917, net.walk(0, 30, 40, 50));
        Checks.equal(5917, net.chance(0, 30, 40));
        Checks.equal(10355, net.chance(0, 31, 40));
        Checks.equal(2967, net.walk(0, 30, 40, 50));
        Checks.equal(0, net.walk(0, 30, 40, 100));
        Checks.equal(35000000 / 3360, net.chance(0, 31, 40));
        Checks.equal(0, net.walk(0, 80, 80, 30));
        Checks.equal(35000000 / 3360, net.chance(0, 31, 40));
        Checks.equal(1000000L * 34650 / 3359650, net.walk(0, 31, 40, 1));
    }

    /** All weights are at the corner: 10 million in its cell, 5 million in each of three others. */
    private static FireNet corner() {
        return endingAt(-6, -6);
    }

    private static void walksInOrder() {
        FireNet net = corner();
        Checks.equal(400000, net.chance(0, 0, 0));
        net.walk(0, 1, 0, 100);
        net.walk(0, 1, 1, 100);
        for (int i = 0; i < 3; i++) {
            net.walk(0, 0, 0, 99);
            net.walk(0, 0, 1, 99);
        }
        Checks.equal(666666, net.chance(0, 0, 0));
        Checks.equal(333333, net.chance(0, 0, 1));
        Checks.equal(583333, net.walk(0, 0, 0, 25));
        Checks.equal(375000, net.walk(0, 0, 0, 50));
        Checks.equal(0, net.walk(0, 0, 0, 99));
        Checks.equal(1000000, net.chance(0, 0, 1));
        Checks.equal(0, net.walk(0, 0, 1, 81));
        Checks.equal(0, net.chance(0, 0, 0));
        net.wind(10, 1, 1);
        Checks.yes(net.chance(0, 2, 2) > 0);
    }

    private static void walksOfNumber() {
        FireNet net = Nets.oneFireball();
        Nets.fireball(net, 10, 2000, Nets.at(30, 30), Nets.at(30, 40));
        net.walk(2, 30, 40, 100);
        Checks.equal(0, net.chance(2, 30, 40));
        Checks.equal(11764, net.chance(0, 30, 40));
        net.clock(0, 90);
        Checks.refused(Checks.NO_SUCH, () -> net.chance(2, 30, 40));
        net.clock(0, 0);
        Checks.equal(0, net.chance(2, 30, 40));
        net.walk(0, 31, 40, 100);
        Checks.equal(40000000 / 3365, net.chance(0, 30, 40));
        Checks.equal(35000000 / 3360, net.chance(2, 31, 40));
        net.walk(0, 30, 40, 50);
        Checks.equal(0, net.chance(2, 30, 40));
    }

    private static void chanceByDistance() {
        FireNet net = Nets.oneFireball();
        Checks.equal(11764, net.chance(0, 30, 40));
        Checks.equal(10294, net.chance(0, 31, 40));
        Checks.equal(10294, net.chance(0, 29, 41));
        Checks.equal(8823, net.chance(0, 30, 38));
        Checks.equal(7352, net.chance(0, 27, 38));
        Checks.equal(1470, net.chance(0, 37, 40));
        Checks.equal(1470, net.chance(0, 23, 33));
        Checks.equal(1470, net.chance(0, 30, 47));
        Checks.equal(0, net.chance(0, 38, 40));
        Checks.equal(0, net.chance(0, 22, 40));
        Checks.equal(0, net.chance(0, 30, 48));
        Checks.equal(0, net.chance(0, 30, 32));
    }

    private static void edgeOfGround() {
        Checks.equal(39215, endingAt(99, 99).chance(0, 99, 99));
        Checks.equal(50000, endingAt(100, 100).chance(0, 99, 99));
        Checks.equal(50000, endingAt(-1, -1).chance(0, 0, 0));
        Checks.equal(133333, endingAt(-4, -4).chance(0, 0, 0));
        // At the middle of an edge (r and 1) times (2 r and 1) cells are within r: 372 together, for r from 0 to 7.
        Checks.equal(8000000 / 372, endingAt(0, 50).chance(0, 0, 50));
        Checks.equal(8000000 / 372, endingAt(99, 50).chance(0, 99, 50));
        Checks.equal(8000000 / 372, endingAt(50, 99).chance(0, 50, 99));
    }

    private static void beyondGround() {
        Checks.equal(1000000, endingAt(-7, -7).chance(0, 0, 0));
        Checks.equal(0, endingAt(-8, -8).chance(0, 0, 0));
        Checks.equal(0, endingAt(-40, -40).chance(0, 0, 0));
        Checks.equal(0, endingAt(50, -8).chance(0, 50, 0));
        FireNet net = endingAt(-8, -8);
        net.wind(10, 20, 20);
        Checks.yes(net.chance(0, 0, 0) > 0);
    }

    private static void fallByNight() {
        FireNet net = Nets.oneFireball();
        net.find(30, 40, 9, 5, 0);
        net.find(30, 40, 10, 5, 0);
        net.find(30, 40, 11, 5, 0);
        net.find(30, 40, 3649, 5, 0);
        Checks.equal(-1, net.fall(0));
        Checks.equal(0, net.fall(1));
        Checks.equal(0, net.fall(2));
        Checks.equal(0, net.fall(3));
    }

    private static void fallByChance() {
        FireNet net = Nets.threeCameras();
        Nets.fireball(net, 20, 1000, Nets.at(30, 30), Nets.at(30, 40));
        Nets.fireball(net, 10, 1000, Nets.at(30, 30), Nets.at(30, 40));
        Nets.fireball(net, 15, 1000, Nets.at(30, 30), Nets.at(33, 40));
        net.find(30, 40, 20, 5, 0);
        net.find(30, 40, 19, 5, 0);
        net.find(32, 40, 20, 5, 0);
        net.find(32, 40, 14, 5, 0);
        net.find(36, 40, 99, 5, 0);
        Checks.equal(0, net.fall(0));
        Checks.equal(2, net.fall(1));
        Checks.equal(4, net.fall(2));
        Checks.equal(2, net.fall(3));
        Checks.equal(4, net.fall(4));
        net.cut(3, 1, 0);
        Checks.equal(2, net.fall(5));
    }

    private static void fallBySmallChance() {
        FireNet net = Nets.oneFireball();
        net.find(30, 40, 20, 5, 0);
        net.walk(0, 30, 40, 99);
        Checks.equal(1, net.walk(0, 30, 40, 99));
        Checks.equal(0, net.fall(0));
        Checks.equal(0, net.walk(0, 30, 40, 99));
        Checks.equal(-1, net.fall(0));
    }

    private static void fallOfNone() {
        FireNet net = Nets.oneFireball();
        net.find(38, 40, 20, 5, 0);
        net.find(37, 40, 20, 5, 0);
        Checks.equal(-1, net.fall(0));
        Checks.equal(0, net.fall(1));
        FireNet empty = new FireNet();
        empty.find(0, 0, 0, 1, 0);
        Checks.equal(-1, empty.fall(0));
    }

    private static void fallFollows() {
        FireNet net = Nets.oneFireball();
        Nets.fireball(net, 12, 1000, Nets.at(30, 30), Nets.at(30, 40));
        net.find(30, 40, 20, 5, 0);
        Checks.equal(0, net.fall(0));
        net.walk(0, 30, 40, 10);
        Checks.equal(2, net.fall(0));
        net.walk(2, 30, 40, 20);
        Checks.equal(0, net.fall(0));
        net.wind(10, 20, 20);
        Checks.equal(2, net.fall(0));
        net.walk(2, 30, 40, 100);
        Checks.equal(0, net.fall(0));
        net.clock(0, 6);
        Checks.equal(-1, net.fall(0));
    }
}

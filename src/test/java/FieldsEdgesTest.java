/** The boundary cases of the promises 13 to 15 and 17, a test for each sentence of the document that names one. */
public final class FieldsEdgesTest {
    /** Numbers of no fireball of Scenes.rich(): of no sighting, of one that is not the lowest, and of one alone. */
    private static final int[] NO_FIREBALLS = {Integer.MIN_VALUE, -1, Scenes.NOT_LOWEST, Scenes.ALONE,
            Scenes.SIGHTINGS, 60, Integer.MAX_VALUE};
    /** All weights together of a field that is on the ground as a whole, and of one at the middle of its edge. */
    private static final long WHOLE = 5 * 680;
    private static final long AT_EDGE = 5 * 372;
    private static final long BESIDE_EDGE = 5 * 308;

    private FieldsEdgesTest() {
    }

    public static void main(String[] args) {
        Checks checks = new Checks();
        wind(checks);
        walk(checks);
        chance(checks);
        pieces(checks);
        fall(checks);
        checks.finish();
    }

    // ---- what the tests share

    private static FireNet endingAt(int x, int y) {
        return ending(Nets.at(20, 57), Nets.at(x - 20, y - 57), Nets.at(41, 33), Nets.at(x - 41, y - 33));
    }

    /** Two cameras, and the ways of their rays to the end of a fireball of the night 10. */
    private static FireNet ending(int[] place, int[] way, int[] otherPlace, int[] otherWay) {
        FireNet net = new FireNet();
        net.camera(place[0], place[1], 0);
        net.camera(otherPlace[0], otherPlace[1], 0);
        net.begin(0, 10, 1000, 1, 100);
        net.end(way[0], way[1], way[0], way[1]);
        net.begin(1, 10, 1000, 1, 100);
        net.end(otherWay[0], otherWay[1], otherWay[0], otherWay[1]);
        Checks.equal(0, net.fireball(1));
        return net;
    }

    /** The chance of the weight, in millions, of all weights together. */
    private static void chanceIs(long weight, long all, FireNet net, int x, int y) {
        Checks.equal(weight * 1000000 / all, net.chance(0, x, y));
    }

    // ---- promise 13

    private static void wind(Checks checks) {
        checks.test("promise 13 \"night 0 to 3649\"", FieldsEdgesTest::windNights);
        checks.test("promise 13 \"x -20 to 20\"", FieldsEdgesTest::windX);
        checks.test("promise 13 \"y -20 to 20\"", FieldsEdgesTest::windY);
        checks.test("promise 13 \"The wind of a night\": not of those beside", FieldsEdgesTest::windOfNight);
        checks.test("promise 13 \"at first 0\", and told anew", FieldsEdgesTest::windAtFirst);
        checks.test("promise 13 \"if winds of 50 other nights were told\": the fiftieth is taken, the next one refused",
                FieldsEdgesTest::fiftyWinds);
        checks.test("promise 13 \"50 other nights\": one of the 50 is told anew", FieldsEdgesTest::windToldAnew);
        checks.test("promise 13: IllegalArgumentException comes ahead of IllegalStateException",
                FieldsEdgesTest::windOrder);
    }

    private static void windNights() {
        Edges.range(0, 3649, Scenes::rich, (net, night) -> net.wind(night, 1, 1));
        for (int night : new int[] {0, 3649}) {
            FireNet net = Nets.threeCameras();
            Nets.fireball(net, night, 1000, Nets.at(30, 30), Nets.at(30, 40));
            net.wind(night, -1, 0);
            chanceIs(40, WHOLE, net, 29, 40);
        }
    }

    /** The pieces fall 20, 16, 12, 8 and 4 cells away, so the first three of them 2, 2 and 6 from the cell at 18. */
    private static void windX() {
        Edges.range(-20, 20, Nets::oneFireball, (net, x) -> {
            net.wind(10, x, 0);
            chanceIs(6 + 6 + 2, WHOLE, net, 30 + x * 18 / 20, 40);
            chanceIs(1, WHOLE, net, 30 + x + x / 20 * 7, 40);
            chanceIs(0, WHOLE, net, 30 + x + x / 20 * 8, 40);
        });
    }

    private static void windY() {
        Edges.range(-20, 20, Nets::oneFireball, (net, y) -> {
            net.wind(10, 0, y);
            chanceIs(6 + 6 + 2, WHOLE, net, 30, 40 + y * 18 / 20);
            chanceIs(1, WHOLE, net, 30, 40 + y + y / 20 * 7);
            chanceIs(0, WHOLE, net, 30, 40 + y + y / 20 * 8);
        });
    }

    private static void windOfNight() {
        FireNet net = Nets.oneFireball();
        net.wind(9, 20, 20);
        net.wind(11, -20, -20);
        chanceIs(40, WHOLE, net, 30, 40);
    }

    private static void windAtFirst() {
        FireNet net = Nets.oneFireball();
        chanceIs(40, WHOLE, net, 30, 40);
        net.wind(10, -1, 0);
        chanceIs(40, WHOLE, net, 29, 40);
        net.wind(10, 0, -1);
        chanceIs(40, WHOLE, net, 30, 39);
        net.wind(10, 0, 0);
        chanceIs(40, WHOLE, net, 30, 40);
    }

    private static void fiftyWinds() {
        FireNet net = Nets.oneFireball();
        for (int i = 0; i < 49; i++) {
            net.wind(100 + i, 0, 0);
        }
        net.wind(10, -1, 0);
        chanceIs(40, WHOLE, net, 29, 40);
        Checks.refused(Checks.NOT_NOW, () -> net.wind(99, 0, 0));
        Edges.refusedEach(Checks.NOT_NOW, Scenes::fiftyWinds, (full, night) -> full.wind(night, 1, 1), 0, 9, 3649);
    }

    private static void windToldAnew() {
        FireNet net = Nets.oneFireball();
        net.wind(10, 5, 5);
        for (int i = 0; i < 49; i++) {
            net.wind(100 + i, 1, 1);
        }
        net.wind(10, -1, 0);
        chanceIs(40, WHOLE, net, 29, 40);
        Edges.taken(Scenes::fiftyWinds, (full, night) -> full.wind(night, 0, 0), 10, 20, 400, 2003, 2049);
    }

    private static void windOrder() {
        Edges.refusedEach(Checks.OUT_OF_RANGE, Scenes::fiftyWinds, (net, night) -> net.wind(night, 1, 1), -1, 3650);
        Edges.refusedEach(Checks.OUT_OF_RANGE, Scenes::fiftyWinds, (net, x) -> net.wind(9, x, 1), -21, 21);
        Edges.refusedEach(Checks.OUT_OF_RANGE, Scenes::fiftyWinds, (net, y) -> net.wind(9, 1, y), -21, 21);
    }

    // ---- promise 14

    private static void walk(Checks checks) {
        checks.test("promise 14 \"if there is no such fireball\"", FieldsEdgesTest::walkNumbers);
        checks.test("promise 14 \"x 0 to 99\"", FieldsEdgesTest::walkX);
        checks.test("promise 14 \"y 0 to 99\"", FieldsEdgesTest::walkY);
        checks.test("promise 14 \"skill 1 to 100\"", FieldsEdgesTest::walkSkill);
        checks.test("promise 14 \"if there were 60 walks\": the sixtieth is taken, the next one refused",
                FieldsEdgesTest::sixtyWalks);
        checks.test("promise 14 \"in order .. rounded down\"", FieldsEdgesTest::walksInOrder);
        checks.test("promise 14 \"each walk through the cell\": the first one's again, and one beside it",
                FieldsEdgesTest::walkedAgain);
        checks.test("promise 14 \"for the fireball of that number\"", FieldsEdgesTest::walksOfNumber);
        checks.test("promise 14 \"the chance of the cell then\": where no weight is, or none is left",
                FieldsEdgesTest::walkedAway);
        checks.test("promise 14: IndexOutOfBoundsException comes ahead of the others", FieldsEdgesTest::walkOrder);
        checks.test("promise 14: IllegalArgumentException comes ahead of IllegalStateException",
                FieldsEdgesTest::walkOrderOfSixty);
    }

    private static void walkNumbers() {
        Edges.refusedEach(Checks.NO_SUCH, Scenes::rich, (net, number) -> net.walk(number, 30, 40, 50), NO_FIREBALLS);
        Edges.taken(Scenes::rich, (net, fireball) -> net.walk(fireball, 30, 40, 50), Scenes.FIREBALLS);
    }

    private static void walkX() {
        Edges.range(0, 99, Scenes::rich, (net, x) -> Checks.equal(0, net.walk(0, x, 40, 50)));
    }

    private static void walkY() {
        Edges.range(0, 99, Scenes::rich, (net, y) -> Checks.equal(0, net.walk(0, 30, y, 50)));
    }

    private static void walkSkill() {
        Edges.range(1, 100, Nets::oneFireball, (net, skill) ->
                Checks.equal(skill == 1 ? 39600000000000L / 3399600000L : 0, net.walk(0, 30, 40, skill)));
    }

    private static void sixtyWalks() {
        FireNet net = Nets.oneFireball();
        Nets.fireball(net, 11, 1000, Nets.at(30, 30), Nets.at(30, 40));
        for (int i = 0; i < 59; i++) {
            Checks.equal(0, net.walk(i % 2 * 2, i, 99, 1));
        }
        Checks.equal(0, net.walk(0, 30, 40, 100));
        Checks.refused(Checks.NOT_NOW, () -> net.walk(2, 31, 40, 100));
        chanceIs(35, WHOLE - 40, net, 31, 40);
        for (int fireball : Scenes.FIREBALLS) {
            Edges.refused(Checks.NOT_NOW, Scenes::sixtyWalks, full -> full.walk(fireball, 31, 40, 50));
        }
    }

    /** All weights are at the corner: 10 million in its cell, 5 million in each of three others. */
    private static FireNet corner() {
        FireNet net = endingAt(-6, -6);
        net.walk(0, 1, 0, 100);
        net.walk(0, 1, 1, 100);
        for (int i = 0; i < 3; i++) {
            net.walk(0, 0, 0, 99);
            net.walk(0, 0, 1, 99);
        }
        Checks.equal(666666, net.chance(0, 0, 0));
        return net;
    }

    /** Of 5, first 99 and then 79 hundredths are 4 and 3, but the other way round 3 and 2. */
    private static void walksInOrder() {
        FireNet net = corner();
        Checks.equal(1000000 * 4 / 14, net.walk(0, 0, 1, 1));
        Checks.equal(1000000 * 3 / 13, net.walk(0, 0, 1, 21));
        FireNet turned = corner();
        Checks.equal(1000000 * 3 / 13, turned.walk(0, 0, 1, 21));
        Checks.equal(1000000 * 2 / 12, turned.walk(0, 0, 1, 1));
    }

    private static void walkedAgain() {
        FireNet net = Nets.oneFireball();
        Checks.equal(20000000 / 3380, net.walk(0, 30, 40, 50));
        Checks.equal(10000000 / 3370, net.walk(0, 30, 40, 50));
        chanceIs(35, WHOLE - 30, net, 31, 40);
        Checks.equal(0, net.walk(0, 31, 40, 100));
        Checks.equal(0, net.walk(0, 31, 40, 1));
        chanceIs(10, WHOLE - 30 - 35, net, 30, 40);
        chanceIs(35, WHOLE - 30 - 35, net, 30, 41);
    }

    private static void walksOfNumber() {
        FireNet net = Nets.oneFireball();
        Nets.fireball(net, 10, 2000, Nets.at(30, 30), Nets.at(30, 40));
        Checks.equal(0, net.walk(2, 30, 40, 100));
        chanceIs(40, WHOLE, net, 30, 40);
        chanceIs(35, WHOLE, net, 31, 40);
        net.clock(0, 6);
        Checks.refused(Checks.NO_SUCH, () -> net.chance(2, 30, 40));
        net.clock(0, 0);
        Checks.equal(0, net.chance(2, 30, 40));
        Checks.equal(35000000 / 3360, net.chance(2, 31, 40));
    }

    private static void walkedAway() {
        Checks.equal(0, Nets.oneFireball().walk(0, 38, 40, 100));
        Checks.equal(0, Nets.oneFireball().walk(0, 30, 40, 100));
        FireNet last = endingAt(-7, -7);
        Checks.equal(1000000, last.walk(0, 0, 0, 99));
        Checks.equal(0, last.walk(0, 0, 0, 100));
        Checks.equal(0, last.chance(0, 0, 0));
        Checks.equal(0, last.chance(0, 0, 1));
    }

    private static void walkOrder() {
        for (int none : NO_FIREBALLS) {
            Edges.refused(Checks.NO_SUCH, Scenes::rich, net -> net.walk(none, 100, 40, 50));
            Edges.refused(Checks.NO_SUCH, Scenes::rich, net -> net.walk(none, 30, -1, 50));
            Edges.refused(Checks.NO_SUCH, Scenes::rich, net -> net.walk(none, 30, 40, 101));
            Edges.refused(Checks.NO_SUCH, Scenes::sixtyWalks, net -> net.walk(none, 30, 40, 50));
            Edges.refused(Checks.NO_SUCH, Scenes::sixtyWalks, net -> net.walk(none, 30, 40, 0));
        }
    }

    private static void walkOrderOfSixty() {
        Edges.refusedEach(Checks.OUT_OF_RANGE, Scenes::sixtyWalks, (net, x) -> net.walk(0, x, 40, 50), -1, 100);
        Edges.refusedEach(Checks.OUT_OF_RANGE, Scenes::sixtyWalks, (net, y) -> net.walk(0, 30, y, 50), -1, 100);
        Edges.refusedEach(Checks.OUT_OF_RANGE, Scenes::sixtyWalks, (net, is) -> net.walk(0, 30, 40, is), 0, 101);
    }

    // ---- promise 15

    private static void chance(Checks checks) {
        checks.test("promise 15 \"if there is no such fireball\"", FieldsEdgesTest::chanceNumbers);
        checks.test("promise 15 \"x 0 to 99\"", FieldsEdgesTest::chanceX);
        checks.test("promise 15 \"y 0 to 99\"", FieldsEdgesTest::chanceY);
        checks.test("promise 15: IndexOutOfBoundsException comes ahead of IllegalArgumentException",
                FieldsEdgesTest::chanceOrder);
        checks.test("promise 15 \"8 less the greater one .. but at least 0\": 7 and 8 cells away",
                FieldsEdgesTest::chanceAway);
        checks.test("promise 15 \"but at least 0\": of each size by itself", FieldsEdgesTest::chanceOfSizes);
        checks.test("promise 15 \"0, if that is 0\": all beyond the ground, or walked away",
                FieldsEdgesTest::chanceOfNothing);
        checks.test("promise 15 \"of all cells of the ground\": at its corners and edges",
                FieldsEdgesTest::chanceAtEdges);
    }

    private static void chanceNumbers() {
        Edges.refusedEach(Checks.NO_SUCH, Scenes::rich, (net, number) -> net.chance(number, 30, 40), NO_FIREBALLS);
        Edges.taken(Scenes::rich, (net, fireball) -> net.chance(fireball, 30, 40), Scenes.FIREBALLS);
    }

    private static void chanceX() {
        Edges.range(0, 99, Scenes::rich, (net, x) -> Checks.equal(0, net.chance(0, x, 40)));
    }

    private static void chanceY() {
        Edges.range(0, 99, Scenes::rich, (net, y) -> Checks.equal(0, net.chance(0, 30, y)));
    }

    private static void chanceOrder() {
        for (int none : NO_FIREBALLS) {
            Edges.refusedEach(Checks.NO_SUCH, Scenes::rich, (net, x) -> net.chance(none, x, 40), -1, 100);
            Edges.refusedEach(Checks.NO_SUCH, Scenes::rich, (net, y) -> net.chance(none, 30, y), -1, 100);
        }
    }

    private static void chanceAway() {
        FireNet net = Nets.oneFireball();
        int[][] seven = {{37, 40}, {23, 40}, {30, 47}, {30, 33}, {37, 47}, {23, 33}, {37, 33}, {36, 47}};
        for (int[] cell : seven) {
            chanceIs(5, WHOLE, net, cell[0], cell[1]);
        }
        int[][] eight = {{38, 40}, {22, 40}, {30, 48}, {30, 32}, {38, 48}, {22, 32}, {38, 47}, {37, 48}};
        for (int[] cell : eight) {
            chanceIs(0, WHOLE, net, cell[0], cell[1]);
        }
        chanceIs(40, WHOLE, net, 30, 40);
        chanceIs(35, WHOLE, net, 31, 40);
    }

    /** The pieces fall 4, 8, 12, 16 and 20 cells away, so just one or two of them count in a cell. */
    private static void chanceOfSizes() {
        FireNet net = Nets.oneFireball();
        net.wind(10, 20, 0);
        chanceIs(8 + 4 + 4, WHOLE, net, 38, 40);
        chanceIs(4, WHOLE, net, 30, 40);
        chanceIs(1, WHOLE, net, 27, 40);
        chanceIs(0, WHOLE, net, 26, 40);
        chanceIs(7 + 5 + 1, WHOLE, net, 35, 39);
        chanceIs(8 + 4, WHOLE, net, 34, 40);
    }

    private static void chanceOfNothing() {
        Checks.equal(1000000, endingAt(-7, -7).chance(0, 0, 0));
        Checks.equal(0, endingAt(-8, -7).chance(0, 0, 0));
        Checks.equal(0, endingAt(-7, -8).chance(0, 0, 0));
        Checks.equal(0, endingAt(-40, -40).chance(0, 0, 0));
        FireNet walked = endingAt(-7, -7);
        walked.walk(0, 0, 0, 100);
        Checks.equal(0, walked.chance(0, 0, 0));
    }

    /** At a corner (r and 1) squared cells are within r: 204 together, for r from 0 to 7. */
    private static void chanceAtEdges() {
        chanceIs(8, 204, endingAt(0, 0), 0, 0);
        chanceIs(8, 204, endingAt(99, 99), 99, 99);
        chanceIs(8, 372, endingAt(50, 99), 50, 99);
        chanceIs(8, 372, endingAt(99, 50), 99, 50);
        chanceIs(8, 680, endingAt(7, 7), 7, 7);
        chanceIs(8, 680, endingAt(92, 92), 92, 92);
        chanceIs(8, 680 - 15, endingAt(93, 92), 93, 92);
        chanceIs(8, 680 - 15, endingAt(92, 93), 92, 93);
        chanceIs(8, 680 - 15, endingAt(6, 50), 6, 50);
        chanceIs(8, 680 - 15, endingAt(50, 6), 50, 6);
    }

    // ---- where pieces fall

    private static void pieces(Checks checks) {
        checks.test("promise 15 \"into the cell of these divided by 100\": the last hundredth, and the next one",
                FieldsEdgesTest::cellOfPiece);
        checks.test("promise 15 \"divided by 100\": rounded down, also below 0", FieldsEdgesTest::cellBelowZero);
        checks.test("promise 15 \"divided by 100\": at the other side of the ground", FieldsEdgesTest::cellAtFarSide);
        checks.test("promise 15 \"20 times (6 less k)\": 20 for the size 5, 100 for 1", FieldsEdgesTest::windOfSizes);
        checks.test("promise 15 \"perhaps beyond the ground\": some of the pieces", FieldsEdgesTest::someBeyond);
    }

    private static FireNet endingInHundredths(int hundredths) {
        FireNet net = ending(Nets.at(30, 30), Nets.at(hundredths, 50), Nets.at(31, 30), Nets.at(hundredths - 100, 50));
        Checks.equal(3000 + hundredths, net.told(0, 3));
        return net;
    }

    private static void cellOfPiece() {
        chanceIs(40, WHOLE, endingInHundredths(99), 30, 30);
        chanceIs(40, WHOLE, endingInHundredths(1), 30, 30);
        FireNet falls = endingInHundredths(80);
        falls.wind(10, 1, 0);
        chanceIs(5 * 8, WHOLE, falls, 31, 30);
        FireNet justNot = endingInHundredths(79);
        justNot.wind(10, 1, 0);
        chanceIs(4 * 8 + 7, WHOLE, justNot, 31, 30);
        chanceIs(4 * 7 + 8, WHOLE, justNot, 30, 30);
        FireNet stays = endingInHundredths(20);
        stays.wind(10, -1, 0);
        chanceIs(4 * 8 + 7, WHOLE, stays, 29, 30);
        FireNet leaves = endingInHundredths(19);
        leaves.wind(10, -1, 0);
        chanceIs(5 * 8, WHOLE, leaves, 29, 30);
    }

    /** The end in the first net is at -0.01.., which is -2 hundredths. */
    private static void cellBelowZero() {
        FireNet end = ending(Nets.at(1, 30), Nets.at(-1, 1), Nets.at(50, 30), Nets.at(-99, 2));
        Checks.equal(-2, end.told(0, 3));
        chanceIs(5 * 7, BESIDE_EDGE, end, 0, 31);
        FireNet blown = ending(Nets.at(0, 30), Nets.at(19, 50), Nets.at(1, 30), Nets.at(-81, 50));
        chanceIs(5 * 8, AT_EDGE, blown, 0, 30);
        blown.wind(10, -1, 0);
        chanceIs(5 * 7, BESIDE_EDGE, blown, 0, 30);
        FireNet justNot = ending(Nets.at(0, 30), Nets.at(20, 50), Nets.at(1, 30), Nets.at(-80, 50));
        justNot.wind(10, -1, 0);
        chanceIs(8 + 4 * 7, 372 + 4 * 308, justNot, 0, 30);
    }

    private static void cellAtFarSide() {
        FireNet within = ending(Nets.at(99, 30), Nets.at(99, 100), Nets.at(99, 32), Nets.at(99, -100));
        Checks.equal(9999, within.told(0, 3));
        chanceIs(5 * 8, AT_EDGE, within, 99, 31);
        FireNet beyond = ending(Nets.at(99, 30), Nets.at(1, 1), Nets.at(99, 32), Nets.at(1, -1));
        Checks.equal(10000, beyond.told(0, 3));
        chanceIs(5 * 7, BESIDE_EDGE, beyond, 99, 31);
        FireNet withinY = ending(Nets.at(30, 99), Nets.at(100, 99), Nets.at(32, 99), Nets.at(-100, 99));
        chanceIs(5 * 8, AT_EDGE, withinY, 31, 99);
        FireNet beyondY = ending(Nets.at(30, 99), Nets.at(1, 1), Nets.at(32, 99), Nets.at(-1, 1));
        chanceIs(5 * 7, BESIDE_EDGE, beyondY, 31, 99);
    }

    /** By a wind of 1 the pieces fall 0.2, 0.4, 0.6, 0.8 and 1 kilometre away, so just that of the size 1 leaves. */
    private static void windOfSizes() {
        FireNet net = Nets.oneFireball();
        net.wind(10, 1, 0);
        chanceIs(4 * 8 + 7, WHOLE, net, 30, 40);
        net.wind(10, 5, 0);
        chanceIs(8 + 7 + 6 + 5 + 4, WHOLE, net, 31, 40);
        chanceIs(8 + 7 + 6 + 5 + 4, WHOLE, net, 35, 40);
        chanceIs(6 + 7 + 8 + 7 + 6, WHOLE, net, 33, 40);
        chanceIs(7 + 6 + 5 + 4 + 3, WHOLE, net, 30, 40);
        net.wind(10, 4, 0);
        chanceIs(8 + 7 + 6 + 5 + 4, WHOLE, net, 30, 40);
    }

    /** Of the pieces at 99, 103, 107, 111 and 115, 372 and 130 of the ground's cells are within 7, by distance. */
    private static void someBeyond() {
        FireNet net = endingAt(95, 50);
        net.wind(10, 20, 0);
        chanceIs(8 + 4, 372 + 130, net, 99, 50);
        chanceIs(5 + 1, 372 + 130, net, 96, 50);
        chanceIs(4, 372 + 130, net, 95, 50);
    }

    // ---- promise 17

    private static void fall(Checks checks) {
        checks.test("promise 17 \"if there is no such stone\"", FieldsEdgesTest::fallNumbers);
        checks.test("promise 17 \"of its night or of one ahead\"", FieldsEdgesTest::fallNights);
        checks.test("promise 17 \"of one ahead\": the first and the last night", FieldsEdgesTest::fallFarNights);
        checks.test("promise 17 \"the greatest chance\": by a millionth", FieldsEdgesTest::fallGreatest);
        checks.test("promise 17 \"of several the lowest\"", FieldsEdgesTest::fallLowest);
        checks.test("promise 17 \"none if all are 0\": a millionth is not", FieldsEdgesTest::fallNone);
        checks.test("promise 17 \"none\": without fireballs", FieldsEdgesTest::fallWithoutFireballs);
        checks.test("promise 17 \"the cell where the stone was found\": at the corners of the ground",
                FieldsEdgesTest::fallAtCorners);
    }

    private static void fallNumbers() {
        Edges.numbers(Scenes.STONES, Scenes::rich, (net, stone) -> net.fall(stone));
        Edges.numbers(40, Scenes::fortyStones, (net, stone) -> net.fall(stone));
    }

    private static void fallNights() {
        FireNet net = Nets.oneFireball();
        for (int i = 0; i < 4; i++) {
            net.find(30, 40, 8 + i, 5, 0);
        }
        Checks.equal(-1, net.fall(0));
        Checks.equal(-1, net.fall(1));
        Checks.equal(0, net.fall(2));
        Checks.equal(0, net.fall(3));
    }

    private static void fallFarNights() {
        FireNet net = Nets.threeCameras();
        Nets.fireball(net, 3649, 1000, Nets.at(30, 30), Nets.at(30, 40));
        net.find(30, 40, 3648, 5, 0);
        net.find(30, 40, 3649, 5, 0);
        net.find(30, 40, 0, 5, 0);
        Checks.equal(-1, net.fall(0));
        Checks.equal(0, net.fall(1));
        Checks.equal(-1, net.fall(2));
        Nets.fireball(net, 0, 1000, Nets.at(30, 30), Nets.at(30, 40));
        Checks.equal(2, net.fall(0));
        Checks.equal(0, net.fall(1));
        Checks.equal(2, net.fall(2));
    }

    /** Two fireballs that end alike, and a walk for the second one in a cell that has 5 million. */
    private static FireNet secondWalked(int skill) {
        FireNet net = Nets.oneFireball();
        Nets.fireball(net, 10, 2000, Nets.at(30, 30), Nets.at(30, 40));
        net.find(30, 40, 10, 5, 0);
        net.walk(2, 37, 40, skill);
        return net;
    }

    private static void fallGreatest() {
        FireNet net = secondWalked(2);
        Checks.equal(11764, net.chance(0, 30, 40));
        Checks.equal(11765, net.chance(2, 30, 40));
        Checks.equal(2, net.fall(0));
        net.walk(0, 37, 40, 3);
        net.walk(0, 23, 40, 2);
        Checks.equal(11765, net.chance(0, 30, 40));
        Checks.equal(0, net.fall(0));
    }

    private static void fallLowest() {
        FireNet net = secondWalked(1);
        Checks.equal(11764, net.chance(0, 30, 40));
        Checks.equal(11764, net.chance(2, 30, 40));
        Checks.equal(0, net.fall(0));
    }

    private static void fallNone() {
        FireNet net = Nets.oneFireball();
        net.find(30, 40, 20, 5, 0);
        net.walk(0, 30, 40, 99);
        Checks.equal(1, net.walk(0, 30, 40, 99));
        Checks.equal(0, net.fall(0));
        Checks.equal(0, net.walk(0, 30, 40, 99));
        Checks.equal(-1, net.fall(0));
        net.find(37, 47, 20, 5, 0);
        net.find(38, 47, 20, 5, 0);
        Checks.equal(0, net.fall(1));
        Checks.equal(-1, net.fall(2));
    }

    private static void fallWithoutFireballs() {
        FireNet net = new FireNet();
        net.find(0, 0, 3649, 1, 0);
        Checks.equal(-1, net.fall(0));
        net.camera(5, 5, 0);
        net.begin(0, 10, 1000, 1, 100);
        net.end(1, 1, 1, 1);
        Checks.equal(-1, net.fall(0));
    }

    private static void fallAtCorners() {
        int[] sides = {0, 99};
        for (int x : sides) {
            for (int y : sides) {
                FireNet net = endingAt(x, y);
                for (int i = 0; i < 4; i++) {
                    net.find(sides[i % 2], sides[i / 2], 10, 5, 0);
                    boolean there = sides[i % 2] == x && sides[i / 2] == y;
                    Checks.equal(there ? 0 : -1, net.fall(i));
                }
            }
        }
    }
}

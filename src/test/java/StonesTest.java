/** Promises 16 and 18 to 30: stones that are found, told of, cut, lent, stolen, given and named. */
public final class StonesTest {
    private StonesTest() {
    }

    private static final int GRAMS = 0;
    private static final int OWNER = 1;
    private static final int WHERE = 2;
    private static final int LABORATORY = 3;
    private static final int ORIGIN = 4;
    private static final int NAME = 5;
    private static final int DOUBTFUL = 6;
    private static final int LOST = 7;

    public static void main(String[] args) {
        Checks checks = new Checks();
        checks.test("promise 16: stones are numbered from 0, up to 40", StonesTest::stonesNumbered);
        checks.test("promise 16: who owns a find, by the law of its land", StonesTest::findOwners);
        checks.test("promise 18: minerals are told, and told anew", StonesTest::mineralsTold);
        checks.test("promise 19: the latest rule not behind the year", StonesTest::latestRule);
        checks.test("promise 19: of several for one year the last one", StonesTest::lastRule);
        checks.test("promise 20: classes by bounds", StonesTest::classBounds);
        checks.test("promise 20: no class without iron or rule", StonesTest::noClass);
        checks.test("promise 21: pairs by class", StonesTest::pairsByClass);
        checks.test("promise 21: pairs by distance", StonesTest::pairsByDistance);
        checks.test("promise 21: pairs by falls", StonesTest::pairsByFalls);
        checks.test("promise 22: a cut moves grams", StonesTest::cutMovesGrams);
        checks.test("promise 22: a piece has what the other one had", StonesTest::pieceInherits);
        checks.test("promise 22: at least 1 gram is kept", StonesTest::cutKeepsGram);
        checks.test("promise 22: stolen stones are not cut, lent ones are", StonesTest::cutWhere);
        checks.test("promise 23: lent and taken back", StonesTest::lentAndBack);
        checks.test("promise 24: stolen", StonesTest::stolen);
        checks.test("promise 25: laws of lands", StonesTest::lawsOfLands);
        checks.test("promise 26: given to another person", StonesTest::given);
        checks.test("promise 26: given by the law of now", StonesTest::givenByLaw);
        checks.test("promise 26: given only if kept", StonesTest::givenIfKept);
        checks.test("promise 27: names by place and number", StonesTest::namesNumbered);
        checks.test("promise 27: pieces have names of others, or own ones", StonesTest::namesOfPieces);
        checks.test("promise 28: doubtful names", StonesTest::doubtfulNames);
        checks.test("promise 29: what is told of a new stone", StonesTest::newStone);
        checks.test("promise 30: the whole stays as it was found", StonesTest::wholeStays);
        checks.finish();
    }

    /** A net with stones of 100 grams, each found by the person 0 in the land 0. */
    private static FireNet withStones(int count) {
        FireNet net = new FireNet();
        for (int i = 0; i < count; i++) {
            net.find(10, 10, 5, 100, 0);
        }
        return net;
    }

    private static void stonesNumbered() {
        FireNet net = new FireNet();
        for (int i = 0; i < 40; i++) {
            Checks.equal(i, net.find(i, i, i, i + 1, i % 6));
        }
        Checks.refused(Checks.NOT_NOW, () -> net.find(1, 1, 1, 1, 1));
        Checks.refused(Checks.OUT_OF_RANGE, () -> net.find(1, 1, 1, 1, 6));
        Checks.equal(40, net.stone(39, GRAMS));
        Checks.refused(Checks.NO_SUCH, () -> net.stone(40, GRAMS));
    }

    private static void findOwners() {
        int[][] places = {{49, 49}, {50, 49}, {49, 50}, {50, 50}, {0, 0}, {99, 0}, {0, 99}, {99, 99}};
        for (int i = 0; i < places.length; i++) {
            int land = i % 4;
            Checks.equal(3, ownerOfFind(places[i], land, 0, 1));
            Checks.equal(10 + land, ownerOfFind(places[i], land, 1, 0));
            Checks.equal(3, ownerOfFind(places[i], land, 2, 1));
        }
        FireNet net = withStones(1);
        net.law(0, 1);
        Checks.equal(0, net.stone(0, OWNER));
    }

    private static int ownerOfFind(int[] place, int land, int law, int lawOfOthers) {
        FireNet net = new FireNet();
        for (int other = 0; other < 4; other++) {
            net.law(other, other == land ? law : lawOfOthers);
        }
        return net.stone(net.find(place[0], place[1], 0, 1, 3), OWNER);
    }

    private static void mineralsTold() {
        FireNet net = withStones(2);
        net.rule(0, 500, 200);
        net.minerals(0, 500, 1, 2);
        Checks.equal(112, net.classOf(0, 0));
        Checks.equal(0, net.classOf(1, 0));
        net.minerals(0, 0, 9, 0);
        Checks.equal(390, net.classOf(0, 0));
        net.steal(0);
        net.minerals(0, 1000, 0, 9);
        Checks.equal(109, net.classOf(0, 0));
    }

    private static void latestRule() {
        FireNet net = withStones(1);
        net.minerals(0, 250, 3, 4);
        net.rule(5, 100, 50);
        net.rule(2, 300, 200);
        net.rule(8, 900, 800);
        Checks.equal(0, net.classOf(0, 0));
        Checks.equal(0, net.classOf(0, 1));
        Checks.equal(234, net.classOf(0, 2));
        Checks.equal(234, net.classOf(0, 4));
        Checks.equal(134, net.classOf(0, 5));
        Checks.equal(134, net.classOf(0, 7));
        Checks.equal(334, net.classOf(0, 8));
        Checks.equal(334, net.classOf(0, 9));
        net.rule(9, 0, 0);
        Checks.equal(334, net.classOf(0, 8));
        Checks.equal(134, net.classOf(0, 9));
    }

    private static void lastRule() {
        FireNet net = withStones(1);
        net.minerals(0, 250, 0, 0);
        net.rule(3, 900, 800);
        net.rule(3, 100, 50);
        Checks.equal(100, net.classOf(0, 3));
        net.rule(2, 900, 800);
        Checks.equal(100, net.classOf(0, 3));
        net.rule(3, 300, 250);
        Checks.equal(200, net.classOf(0, 9));
        Checks.equal(300, net.classOf(0, 2));
    }

    private static void classBounds() {
        FireNet net = withStones(1);
        net.rule(4, 600, 400);
        classIs(net, 1000, 100);
        classIs(net, 601, 100);
        classIs(net, 600, 100);
        classIs(net, 599, 200);
        classIs(net, 401, 200);
        classIs(net, 400, 200);
        classIs(net, 399, 300);
        classIs(net, 0, 300);
    }

    private static void classIs(FireNet net, int iron, int due) {
        net.minerals(0, iron, 0, 0);
        Checks.equal(due, net.classOf(0, 4));
        net.minerals(0, iron, 9, 0);
        Checks.equal(due + 90, net.classOf(0, 4));
        net.minerals(0, iron, 0, 9);
        Checks.equal(due + 9, net.classOf(0, 4));
        net.minerals(0, iron, 7, 8);
        Checks.equal(due + 78, net.classOf(0, 4));
    }

    private static void noClass() {
        FireNet net = withStones(2);
        Checks.equal(0, net.classOf(0, 9));
        net.minerals(0, 500, 5, 5);
        Checks.equal(0, net.classOf(0, 9));
        net.rule(9, 1000, 500);
        Checks.equal(255, net.classOf(0, 9));
        Checks.equal(0, net.classOf(0, 8));
        Checks.equal(0, net.classOf(1, 9));
        net.minerals(1, 0, 0, 0);
        Checks.equal(300, net.classOf(1, 9));
    }

    private static void pairsByClass() {
        FireNet net = withStones(3);
        Checks.no(net.pair(0, 1, 9));
        net.rule(3, 500, 200);
        net.rule(6, 300, 200);
        Checks.no(net.pair(0, 1, 9));
        net.minerals(0, 400, 1, 1);
        Checks.no(net.pair(0, 1, 9));
        net.minerals(1, 300, 1, 1);
        net.minerals(2, 299, 1, 1);
        Checks.no(net.pair(0, 1, 2));
        Checks.yes(net.pair(0, 1, 3));
        Checks.yes(net.pair(0, 2, 5));
        Checks.yes(net.pair(2, 0, 5));
        Checks.yes(net.pair(0, 1, 6));
        Checks.no(net.pair(0, 2, 6));
        net.minerals(1, 300, 1, 2);
        Checks.no(net.pair(0, 1, 6));
        net.minerals(1, 300, 2, 1);
        Checks.no(net.pair(0, 1, 6));
    }

    private static boolean near(int x, int y) {
        FireNet net = new FireNet();
        net.rule(0, 5, 5);
        net.find(50, 50, 5, 100, 0);
        net.find(x, y, 3649, 10, 1);
        net.minerals(0, 7, 0, 0);
        net.minerals(1, 8, 0, 0);
        boolean is = net.pair(0, 1, 0);
        Checks.equal(is ? 1 : 0, net.pair(1, 0, 0) ? 1 : 0);
        return is;
    }

    private static void pairsByDistance() {
        Checks.yes(near(50, 50));
        Checks.yes(near(60, 60));
        Checks.yes(near(40, 40));
        Checks.yes(near(60, 40));
        Checks.no(near(61, 50));
        Checks.no(near(39, 50));
        Checks.no(near(50, 61));
        Checks.no(near(50, 39));
        Checks.no(near(61, 61));
    }

    /** The stones fell with the fireballs 0, 0, 2 and none. */
    private static void pairsByFalls() {
        FireNet net = Nets.threeCameras();
        Nets.fireball(net, 10, 1000, Nets.at(30, 30), Nets.at(30, 40));
        Nets.fireball(net, 20, 1000, Nets.at(30, 30), Nets.at(35, 40));
        int[][] finds = {{30, 40, 15}, {29, 39, 30}, {35, 40, 20}, {30, 40, 9}, {31, 41, 8}};
        net.rule(0, 5, 5);
        for (int i = 0; i < 5; i++) {
            net.find(finds[i][0], finds[i][1], finds[i][2], 50, 0);
            net.minerals(i, 9, 1, 1);
        }
        Checks.equal(0, net.fall(1));
        Checks.equal(2, net.fall(2));
        Checks.yes(net.pair(0, 1, 0));
        Checks.no(net.pair(0, 2, 0));
        Checks.no(net.pair(2, 1, 0));
        Checks.yes(net.pair(0, 3, 0));
        Checks.yes(net.pair(3, 2, 0));
        Checks.yes(net.pair(4, 3, 0));
        net.clock(0, 50);
        Checks.yes(net.pair(0, 2, 0));
    }

    private static void cutMovesGrams() {
        FireNet net = withStones(2);
        Checks.equal(2, net.cut(0, 30, 5));
        Checks.equal(65, net.stone(0, GRAMS));
        Checks.equal(5, net.stone(0, LOST));
        Checks.equal(30, net.stone(2, GRAMS));
        Checks.equal(0, net.stone(2, LOST));
        Checks.equal(0, net.stone(2, ORIGIN));
        Checks.equal(3, net.cut(2, 10, 0));
        Checks.equal(4, net.cut(0, 1, 7));
        Checks.equal(57, net.stone(0, GRAMS));
        Checks.equal(12, net.stone(0, LOST));
        Checks.equal(20, net.stone(2, GRAMS));
        Checks.equal(2, net.stone(3, ORIGIN));
        Checks.equal(0, net.stone(4, ORIGIN));
        Checks.equal(100, net.stone(1, GRAMS));
    }

    private static void pieceInherits() {
        FireNet net = Nets.oneFireball();
        net.find(30, 40, 10, 100, 2);
        net.find(80, 80, 10, 100, 3);
        net.rule(0, 500, 100);
        net.cut(0, 10, 0);
        net.minerals(0, 300, 4, 5);
        net.cut(0, 10, 0);
        net.minerals(0, 600, 6, 7);
        net.give(0, 5);
        net.cut(0, 10, 0);
        Checks.equal(0, net.classOf(2, 0));
        Checks.equal(245, net.classOf(3, 0));
        Checks.equal(167, net.classOf(4, 0));
        Checks.equal(2, net.stone(2, OWNER));
        Checks.equal(2, net.stone(3, OWNER));
        Checks.equal(5, net.stone(4, OWNER));
        Checks.equal(0, net.fall(4));
        net.minerals(3, 600, 6, 7);
        Checks.equal(167, net.classOf(3, 0));
        Checks.yes(net.pair(3, 4, 0));
        net.cut(1, 10, 0);
        Checks.equal(-1, net.fall(5));
        net.law(3, 2);
        Checks.refused(Checks.NOT_NOW, () -> net.give(5, 2));
    }

    private static void cutKeepsGram() {
        FireNet net = withStones(2);
        Checks.refused(Checks.NOT_NOW, () -> net.cut(0, 100, 0));
        Checks.refused(Checks.NOT_NOW, () -> net.cut(0, 95, 5));
        Checks.refused(Checks.NOT_NOW, () -> net.cut(0, 1000000, 1000));
        Checks.refused(Checks.NOT_NOW, () -> net.cut(0, 1, 99));
        Checks.equal(100, net.stone(0, GRAMS));
        Checks.equal(0, net.stone(0, LOST));
        Checks.equal(2, net.cut(0, 95, 4));
        Checks.equal(1, net.stone(0, GRAMS));
        Checks.refused(Checks.NOT_NOW, () -> net.cut(0, 1, 0));
        Checks.equal(3, net.cut(1, 99, 0));
        Checks.refused(Checks.NO_SUCH, () -> net.stone(4, GRAMS));
    }

    private static void cutWhere() {
        FireNet net = withStones(2);
        net.lend(0, 3);
        Checks.equal(2, net.cut(0, 10, 0));
        Checks.equal(FireNet.LENT, net.stone(0, WHERE));
        Checks.equal(3, net.stone(0, LABORATORY));
        Checks.equal(FireNet.KEPT, net.stone(2, WHERE));
        Checks.equal(-1, net.stone(2, LABORATORY));
        net.steal(0);
        Checks.refused(Checks.NOT_NOW, () -> net.cut(0, 10, 0));
        Checks.equal(90, net.stone(0, GRAMS));
        Checks.equal(3, net.cut(2, 5, 0));
        net.lend(0, -1);
        Checks.equal(4, net.cut(0, 10, 0));
    }

    private static void whereIs(FireNet net, int where, int laboratory) {
        Checks.equal(where, net.stone(0, WHERE));
        Checks.equal(laboratory, net.stone(0, LABORATORY));
    }

    private static void lentAndBack() {
        FireNet net = withStones(2);
        Checks.refused(Checks.NOT_NOW, () -> net.lend(0, -1));
        whereIs(net, FireNet.KEPT, -1);
        net.lend(0, 3);
        whereIs(net, FireNet.LENT, 3);
        Checks.refused(Checks.NOT_NOW, () -> net.lend(0, 3));
        Checks.refused(Checks.NOT_NOW, () -> net.lend(0, 1));
        whereIs(net, FireNet.LENT, 3);
        net.lend(0, -1);
        whereIs(net, FireNet.KEPT, -1);
        net.lend(0, 0);
        whereIs(net, FireNet.LENT, 0);
        net.steal(0);
        whereIs(net, FireNet.STOLEN, -1);
        Checks.refused(Checks.NOT_NOW, () -> net.lend(0, 2));
        whereIs(net, FireNet.STOLEN, -1);
        net.lend(0, -1);
        whereIs(net, FireNet.KEPT, -1);
        Checks.equal(FireNet.KEPT, net.stone(1, WHERE));
    }

    private static void stolen() {
        FireNet net = withStones(2);
        net.steal(0);
        whereIs(net, FireNet.STOLEN, -1);
        Checks.refused(Checks.NOT_NOW, () -> net.steal(0));
        Checks.equal(FireNet.KEPT, net.stone(1, WHERE));
        Checks.refused(Checks.NO_SUCH, () -> net.steal(2));
        Checks.refused(Checks.NO_SUCH, () -> net.steal(-1));
        net.lend(0, -1);
        net.steal(0);
        whereIs(net, FireNet.STOLEN, -1);
        Checks.equal(0, net.stone(0, OWNER));
        Checks.equal(1, net.name(0, 0));
    }

    private static void lawsOfLands() {
        FireNet net = new FireNet();
        for (int land = 0; land < 4; land++) {
            Checks.equal(0, net.law(land, 2));
            Checks.equal(2, net.law(land, 1));
            Checks.equal(1, net.law(land, 1));
        }
        Checks.equal(1, net.law(0, 0));
        Checks.equal(0, net.law(0, 0));
        Checks.equal(1, net.law(3, 0));
    }

    private static void given() {
        FireNet net = withStones(1);
        Checks.equal(0, net.give(0, 5));
        Checks.equal(5, net.stone(0, OWNER));
        Checks.refused(Checks.NOT_NOW, () -> net.give(0, 5));
        Checks.equal(5, net.give(0, 1));
        Checks.equal(1, net.give(0, 0));
        net.law(0, 1);
        net.find(1, 1, 1, 1, 1);
        Checks.equal(10, net.give(1, 1));
        Checks.equal(1, net.give(1, 2));
        Checks.equal(2, net.stone(1, OWNER));
    }

    /** The people 1 and 5 live in the land 1, the people 2 and 3 alone in theirs. */
    private static void givenByLaw() {
        FireNet net = new FireNet();
        net.law(1, 2);
        net.find(60, 10, 5, 100, 0);
        Checks.equal(0, net.stone(0, OWNER));
        Checks.refused(Checks.NOT_NOW, () -> net.give(0, 4));
        Checks.refused(Checks.NOT_NOW, () -> net.give(0, 2));
        Checks.refused(Checks.NOT_NOW, () -> net.give(0, 3));
        Checks.equal(0, net.give(0, 5));
        Checks.equal(5, net.give(0, 1));
        Checks.refused(Checks.NOT_NOW, () -> net.give(0, 0));
        Checks.equal(1, net.stone(0, OWNER));
        net.law(1, 0);
        net.law(0, 2);
        Checks.equal(1, net.give(0, 2));
        net.law(1, 1);
        Checks.equal(2, net.give(0, 3));
        net.cut(0, 10, 0);
        net.law(1, 2);
        Checks.refused(Checks.NOT_NOW, () -> net.give(1, 2));
        Checks.equal(3, net.give(1, 1));
    }

    private static void givenIfKept() {
        FireNet net = withStones(1);
        net.lend(0, 1);
        Checks.refused(Checks.NOT_NOW, () -> net.give(0, 1));
        net.steal(0);
        Checks.refused(Checks.NOT_NOW, () -> net.give(0, 1));
        Checks.equal(0, net.stone(0, OWNER));
        net.lend(0, -1);
        Checks.equal(0, net.give(0, 1));
    }

    private static void namesNumbered() {
        FireNet net = withStones(5);
        Checks.equal(-1, net.stone(0, NAME));
        Checks.equal(1, net.name(3, 0));
        Checks.equal(1, net.name(0, 9));
        Checks.equal(2, net.name(1, 0));
        Checks.equal(2, net.name(2, 9));
        Checks.refused(Checks.NOT_NOW, () -> net.name(0, 9));
        Checks.refused(Checks.NOT_NOW, () -> net.name(0, 5));
        Checks.equal(3, net.name(4, 9));
        Checks.equal(901, net.stone(0, NAME));
        Checks.equal(2, net.stone(1, NAME));
        Checks.equal(902, net.stone(2, NAME));
        Checks.equal(1, net.stone(3, NAME));
        Checks.equal(903, net.stone(4, NAME));
    }

    private static void namesOfPieces() {
        FireNet net = withStones(1);
        net.cut(0, 50, 0);
        net.cut(1, 20, 0);
        Checks.equal(-1, net.stone(2, NAME));
        Checks.equal(1, net.name(0, 4));
        Checks.equal(401, net.stone(1, NAME));
        Checks.equal(401, net.stone(2, NAME));
        Checks.equal(2, net.name(2, 4));
        Checks.equal(401, net.stone(1, NAME));
        Checks.equal(402, net.stone(2, NAME));
        Checks.equal(1, net.name(1, 7));
        Checks.equal(701, net.stone(1, NAME));
        Checks.equal(402, net.stone(2, NAME));
        net.cut(1, 5, 0);
        Checks.equal(701, net.stone(3, NAME));
        Checks.refused(Checks.NOT_NOW, () -> net.name(1, 7));
        Checks.equal(401, net.stone(0, NAME));
    }

    private static void doubtfulNames() {
        FireNet net = withStones(2);
        net.cut(0, 50, 0);
        net.name(0, 4);
        Checks.equal(0, net.stone(0, DOUBTFUL));
        Checks.no(net.doubt(0, true));
        Checks.yes(net.doubt(0, true));
        Checks.equal(1, net.stone(0, DOUBTFUL));
        Checks.equal(1, net.stone(2, DOUBTFUL));
        Checks.equal(0, net.stone(1, DOUBTFUL));
        net.name(2, 4);
        Checks.equal(0, net.stone(2, DOUBTFUL));
        Checks.no(net.doubt(2, false));
        Checks.yes(net.doubt(0, false));
        Checks.equal(0, net.stone(0, DOUBTFUL));
        Checks.no(net.doubt(2, true));
        Checks.equal(0, net.stone(0, DOUBTFUL));
        Checks.equal(1, net.stone(2, DOUBTFUL));
    }

    private static void newStone() {
        FireNet net = withStones(1);
        int[] due = {100, 0, 0, -1, -1, -1, 0, 0};
        for (int what = 0; what < due.length; what++) {
            Checks.equal(due[what], net.stone(0, what));
        }
    }

    private static void wholeStays() {
        FireNet net = withStones(2);
        Checks.equal(100, net.whole(0));
        net.cut(0, 60, 3);
        net.cut(2, 20, 4);
        net.cut(3, 5, 6);
        net.cut(0, 10, 7);
        net.steal(3);
        Checks.equal(100, net.whole(0));
        Checks.equal(100, net.whole(1));
        Checks.equal(60, net.whole(2));
        Checks.equal(20, net.whole(3));
        Checks.equal(5, net.whole(4));
        Checks.equal(10, net.whole(5));
        Checks.equal(20, net.stone(0, GRAMS));
        Checks.equal(10, net.stone(0, LOST));
        Checks.equal(9, net.stone(3, GRAMS));
    }
}

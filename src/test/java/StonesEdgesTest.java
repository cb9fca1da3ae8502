/** The boundary cases of the promises 16 and 18 to 24, a test for each sentence of the document that names one. */
public final class StonesEdgesTest {
    private static final int GRAMS = 0;
    private static final int OWNER = 1;
    private static final int WHERE = 2;
    private static final int LABORATORY = 3;
    private static final int ORIGIN = 4;
    private static final int LOST = 7;

    private static final int HEAVY = Scenes.STONES;

    private StonesEdgesTest() {
    }

    public static void main(String[] args) {
        Checks checks = new Checks();
        find(checks);
        minerals(checks);
        rule(checks);
        classOf(checks);
        pair(checks);
        cut(checks);
        lend(checks);
        steal(checks);
        checks.finish();
    }

    /** The net of Scenes.rich(), and a stone that is as heavy as one may be. */
    private static FireNet heavy() {
        FireNet net = Scenes.rich();
        net.find(10, 10, 5, 1000000, 0);
        return net;
    }

    private static FireNet oneStone() {
        FireNet net = new FireNet();
        net.find(10, 10, 5, 100, 0);
        return net;
    }

    // ---- promise 16

    private static void find(Checks checks) {
        checks.test("promise 16 \"x 0 to 99\"", StonesEdgesTest::findX);
        checks.test("promise 16 \"y 0 to 99\"", StonesEdgesTest::findY);
        checks.test("promise 16 \"night 0 to 3649\"", StonesEdgesTest::findNights);
        checks.test("promise 16 \"grams 1 to 1000000\"", StonesEdgesTest::findGrams);
        checks.test("promise 16 \"finder 0 to 5\"", StonesEdgesTest::findFinders);
        checks.test("promise 16 \"numbered from 0, at most 40\": the fortieth is taken, the next one refused",
                StonesEdgesTest::fortyFinds);
        checks.test("promise 16 \"found, or cut off another one\": pieces are of the 40",
                StonesEdgesTest::fortyWithPieces);
        checks.test("promise 16: IllegalArgumentException comes ahead of IllegalStateException",
                StonesEdgesTest::findOrder);
        checks.test("promise 16 \"0 with x and y below 50, 1 with just y below, 2 with just x below, 3\"",
                StonesEdgesTest::landsOfFinds);
        checks.test("promise 16 \"0 the finder owns a find, 1 the land does, 2 the finder does\"",
                StonesEdgesTest::ownersOfFinds);
    }

    private static void findX() {
        Edges.range(0, 99, Scenes::rich, (net, x) -> Checks.equal(7, net.find(x, 5, 5, 5, 5)));
    }

    private static void findY() {
        Edges.range(0, 99, Scenes::rich, (net, y) -> Checks.equal(7, net.find(5, y, 5, 5, 5)));
    }

    private static void findNights() {
        Edges.range(0, 3649, Scenes::rich, (net, night) -> Checks.equal(7, net.find(5, 5, night, 5, 5)));
    }

    private static void findGrams() {
        Edges.range(1, 1000000, Scenes::rich, (net, grams) -> {
            Checks.equal(7, net.find(5, 5, 5, grams, 5));
            Checks.equal(grams, net.stone(7, GRAMS));
            Checks.equal(grams, net.whole(7));
        });
    }

    private static void findFinders() {
        Edges.range(0, 5, Scenes::rich, (net, finder) -> {
            Checks.equal(7, net.find(5, 5, 5, 5, finder));
            Checks.equal(finder, net.stone(7, OWNER));
        });
    }

    private static void fortyFinds() {
        FireNet net = new FireNet();
        for (int i = 0; i < 40; i++) {
            Checks.equal(i, net.find(5, 5, 5, 1 + i, 5));
        }
        Checks.equal(40, net.stone(39, GRAMS));
        Edges.refused(Checks.NOT_NOW, Scenes::fortyStones, full -> full.find(5, 5, 5, 5, 5));
    }

    private static void fortyWithPieces() {
        FireNet net = oneStone();
        for (int i = 1; i < 40; i++) {
            Checks.equal(i, i % 2 == 0 ? net.find(5, 5, 5, 5, 5) : net.cut(0, 1, 0));
        }
        Checks.refused(Checks.NOT_NOW, () -> net.find(5, 5, 5, 5, 5));
        Edges.refused(Checks.NOT_NOW, StonesEdgesTest::cutToPieces, full -> full.find(5, 5, 5, 5, 5));
    }

    /** A stone, and 39 pieces that were cut off it, each of a gram. */
    private static FireNet cutToPieces() {
        FireNet net = oneStone();
        for (int i = 1; i < 40; i++) {
            Checks.equal(i, net.cut(0, 1, 0));
        }
        return net;
    }

    private static void findOrder() {
        Edges.refusedEach(Checks.OUT_OF_RANGE, Scenes::fortyStones, (net, x) -> net.find(x, 5, 5, 5, 5), -1, 100);
        Edges.refusedEach(Checks.OUT_OF_RANGE, Scenes::fortyStones, (net, y) -> net.find(5, y, 5, 5, 5), -1, 100);
        Edges.refusedEach(Checks.OUT_OF_RANGE, Scenes::fortyStones, (net, at) -> net.find(5, 5, at, 5, 5), -1, 3650);
        Edges.refusedEach(Checks.OUT_OF_RANGE, Scenes::fortyStones, (net, is) -> net.find(5, 5, 5, is, 5), 0, 1000001);
        Edges.refusedEach(Checks.OUT_OF_RANGE, Scenes::fortyStones, (net, by) -> net.find(5, 5, 5, 5, by), -1, 6);
    }

    private static void landsOfFinds() {
        FireNet net = new FireNet();
        for (int land = 0; land < 4; land++) {
            net.law(land, 1);
        }
        int[] sides = {0, 49, 50, 99};
        for (int x : sides) {
            for (int y : sides) {
                int land = (x > 49 ? 1 : 0) + (y > 49 ? 2 : 0);
                Checks.equal(10 + land, net.stone(net.find(x, y, 5, 5, 5), OWNER));
            }
        }
    }

    private static void ownersOfFinds() {
        for (int land = 0; land < 4; land++) {
            FireNet net = new FireNet();
            int x = land % 2 * 50;
            int y = land / 2 * 50;
            Checks.equal(5, net.stone(net.find(x, y, 5, 5, 5), OWNER));
            net.law(land, 1);
            Checks.equal(10 + land, net.stone(net.find(x, y, 5, 5, 5), OWNER));
            net.law(land, 2);
            Checks.equal(3 - land, net.stone(net.find(x, y, 5, 5, 3 - land), OWNER));
            net.law(land, 0);
            Checks.equal(0, net.stone(net.find(x, y, 5, 5, 0), OWNER));
            Checks.equal(5, net.stone(0, OWNER));
            Checks.equal(10 + land, net.stone(1, OWNER));
        }
    }

    // ---- promise 18

    private static void minerals(Checks checks) {
        checks.test("promise 18 \"if there is no such stone\"", StonesEdgesTest::mineralNumbers);
        checks.test("promise 18 \"iron 0 to 1000\"", StonesEdgesTest::irons);
        checks.test("promise 18 \"texture 0 to 9\"", StonesEdgesTest::textures);
        checks.test("promise 18 \"shock 0 to 9\"", StonesEdgesTest::shocks);
        checks.test("promise 18: IndexOutOfBoundsException comes ahead of IllegalArgumentException",
                StonesEdgesTest::mineralOrder);
        checks.test("promise 18 \"if told (when it is cut those of the other one)\": not those told afterwards",
                StonesEdgesTest::mineralsOfPieces);
    }

    private static void mineralNumbers() {
        Edges.numbers(Scenes.STONES, Scenes::rich, (net, stone) -> net.minerals(stone, 1, 1, 1));
    }

    private static void irons() {
        Edges.range(0, 1000, Scenes::rich, (net, iron) -> {
            net.minerals(0, iron, 1, 1);
            Checks.equal(iron == 0 ? 311 : 111, net.classOf(0, 9));
        });
    }

    private static void textures() {
        Edges.range(0, 9, Scenes::rich, (net, texture) -> {
            net.minerals(0, 400, texture, 1);
            Checks.equal(101 + 10 * texture, net.classOf(0, 9));
        });
    }

    private static void shocks() {
        Edges.range(0, 9, Scenes::rich, (net, shock) -> {
            net.minerals(0, 400, 1, shock);
            Checks.equal(110 + shock, net.classOf(0, 9));
        });
    }

    private static void mineralOrder() {
        for (int none : new int[] {-1, Scenes.STONES}) {
            Edges.refusedEach(Checks.NO_SUCH, Scenes::rich, (net, iron) -> net.minerals(none, iron, 1, 1), -1, 1001);
            Edges.refusedEach(Checks.NO_SUCH, Scenes::rich, (net, is) -> net.minerals(none, 1, is, 1), -1, 10);
            Edges.refusedEach(Checks.NO_SUCH, Scenes::rich, (net, is) -> net.minerals(none, 1, 1, is), -1, 10);
        }
    }

    private static void mineralsOfPieces() {
        FireNet net = oneStone();
        net.rule(0, 500, 100);
        Checks.equal(1, net.cut(0, 10, 0));
        net.minerals(0, 300, 4, 5);
        Checks.equal(2, net.cut(0, 10, 0));
        net.minerals(0, 600, 6, 7);
        net.minerals(2, 0, 0, 0);
        Checks.equal(3, net.cut(2, 5, 0));
        Checks.equal(4, net.cut(1, 5, 0));
        Checks.equal(167, net.classOf(0, 0));
        Checks.equal(0, net.classOf(1, 0));
        Checks.equal(300, net.classOf(2, 0));
        Checks.equal(300, net.classOf(3, 0));
        Checks.equal(0, net.classOf(4, 0));
    }

    // ---- promise 19

    private static void rule(Checks checks) {
        checks.test("promise 19 \"year 0 to 9\"", StonesEdgesTest::ruleYears);
        checks.test("promise 19 \"first 0 to 1000\"", StonesEdgesTest::ruleFirst);
        checks.test("promise 19 \"second 0 to first\"", StonesEdgesTest::ruleSecond);
    }

    private static void ruleYears() {
        Edges.range(0, 9, Scenes::rich, (net, year) -> net.rule(year, 450, 100));
        for (int year : new int[] {0, 9}) {
            FireNet net = Scenes.rich();
            net.rule(year, 450, 100);
            Checks.equal(134, net.classOf(0, year));
        }
    }

    private static void ruleFirst() {
        Edges.range(0, 1000, Scenes::rich, (net, first) -> {
            net.rule(5, first, 0);
            Checks.equal(first == 0 ? 134 : 234, net.classOf(0, 5));
            net.minerals(0, 1000, 3, 4);
            Checks.equal(134, net.classOf(0, 5));
        });
    }

    private static void ruleSecond() {
        Edges.range(0, 600, Scenes::rich, (net, second) -> {
            net.rule(5, 600, second);
            Checks.equal(second == 0 ? 234 : 334, net.classOf(0, 5));
        });
        Edges.range(0, 1000, Scenes::rich, (net, second) -> net.rule(5, 1000, second));
        Edges.range(0, 0, Scenes::rich, (net, second) -> {
            net.rule(5, 0, second);
            Checks.equal(134, net.classOf(0, 5));
        });
    }

    // ---- promise 20

    private static void classOf(Checks checks) {
        checks.test("promise 20 \"if there is no such stone\"", StonesEdgesTest::classNumbers);
        checks.test("promise 20 \"year 0 to 9\"", StonesEdgesTest::classYears);
        checks.test("promise 20: IndexOutOfBoundsException comes ahead of IllegalArgumentException",
                StonesEdgesTest::classOrder);
        checks.test("promise 20 \"0, if it has no iron told\": an iron of 0 is told",
                StonesEdgesTest::classWithoutIron);
        checks.test("promise 20 \"or there is no rule\": in the year, or ahead of it",
                StonesEdgesTest::classWithoutRule);
        checks.test("promise 20 \"the latest year not behind that\": the year itself, and those beside",
                StonesEdgesTest::classLatest);
        checks.test("promise 20 \"of several for one year the one told last\"", StonesEdgesTest::classToldLast);
        checks.test("promise 20 \"at least the first bound\"", StonesEdgesTest::classFirstBound);
        checks.test("promise 20 \"at least the second one, or below\"", StonesEdgesTest::classSecondBound);
        checks.test("promise 20 \"two bounds\": that are the same, or the ends of their ranges",
                StonesEdgesTest::classSameBounds);
    }

    private static void classNumbers() {
        Edges.numbers(Scenes.STONES, Scenes::rich, (net, stone) -> net.classOf(stone, 5));
    }

    private static void classYears() {
        Edges.range(0, 9, Scenes::rich, (net, year) -> Checks.equal(year == 0 ? 0 : 134, net.classOf(0, year)));
    }

    private static void classOrder() {
        for (int none : new int[] {-1, Scenes.STONES}) {
            Edges.refusedEach(Checks.NO_SUCH, Scenes::rich, (net, year) -> net.classOf(none, year), -1, 10);
        }
    }

    private static void classIs(FireNet net, int iron, int due) {
        net.minerals(0, iron, 0, 0);
        Checks.equal(due, net.classOf(0, 4));
        net.minerals(0, iron, 9, 9);
        Checks.equal(due + 99, net.classOf(0, 4));
    }

    private static void classWithoutIron() {
        FireNet net = oneStone();
        net.rule(0, 0, 0);
        Checks.equal(0, net.classOf(0, 4));
        classIs(net, 0, 100);
    }

    private static void classWithoutRule() {
        FireNet net = oneStone();
        net.minerals(0, 1000, 9, 9);
        Checks.equal(0, net.classOf(0, 0));
        Checks.equal(0, net.classOf(0, 9));
        net.rule(9, 0, 0);
        Checks.equal(0, net.classOf(0, 0));
        Checks.equal(0, net.classOf(0, 8));
        Checks.equal(199, net.classOf(0, 9));
    }

    private static void classLatest() {
        FireNet net = oneStone();
        net.minerals(0, 500, 0, 0);
        net.rule(5, 500, 400);
        net.rule(3, 600, 400);
        net.rule(7, 800, 700);
        int[] due = {0, 0, 0, 200, 200, 100, 100, 300, 300, 300};
        for (int year = 0; year < 10; year++) {
            Checks.equal(due[year], net.classOf(0, year));
        }
        net.rule(4, 800, 700);
        net.rule(0, 500, 0);
        int[] then = {100, 100, 100, 200, 300, 100, 100, 300, 300, 300};
        for (int year = 0; year < 10; year++) {
            Checks.equal(then[year], net.classOf(0, year));
        }
    }

    private static void classToldLast() {
        FireNet net = oneStone();
        net.minerals(0, 500, 0, 0);
        net.rule(4, 500, 400);
        net.rule(4, 600, 400);
        Checks.equal(200, net.classOf(0, 4));
        net.rule(3, 0, 0);
        Checks.equal(200, net.classOf(0, 4));
        net.rule(4, 500, 500);
        Checks.equal(100, net.classOf(0, 4));
        Checks.refused(Checks.OUT_OF_RANGE, () -> net.rule(4, 600, 601));
        Checks.equal(100, net.classOf(0, 4));
    }

    private static void classFirstBound() {
        FireNet net = oneStone();
        net.rule(4, 600, 400);
        classIs(net, 599, 200);
        classIs(net, 600, 100);
        classIs(net, 601, 100);
        classIs(net, 1000, 100);
    }

    private static void classSecondBound() {
        FireNet net = oneStone();
        net.rule(4, 600, 400);
        classIs(net, 401, 200);
        classIs(net, 400, 200);
        classIs(net, 399, 300);
        classIs(net, 0, 300);
    }

    private static void classSameBounds() {
        FireNet net = oneStone();
        net.rule(4, 600, 600);
        classIs(net, 600, 100);
        classIs(net, 599, 300);
        net.rule(4, 1000, 1000);
        classIs(net, 1000, 100);
        classIs(net, 999, 300);
        net.rule(4, 1000, 0);
        classIs(net, 1000, 100);
        classIs(net, 999, 200);
        classIs(net, 0, 200);
        net.rule(4, 0, 0);
        classIs(net, 0, 100);
    }

    // ---- promise 21

    private static void pair(Checks checks) {
        checks.test("promise 21 \"if there is no such stone, of either\"", StonesEdgesTest::pairNumbers);
        checks.test("promise 21 \"if both are the same\"", StonesEdgesTest::pairOfOne);
        checks.test("promise 21 \"year 0 to 9\"", StonesEdgesTest::pairYears);
        checks.test("promise 21: IndexOutOfBoundsException comes ahead of IllegalArgumentException",
                StonesEdgesTest::pairOrder);
        checks.test("promise 21 \"the same class, not 0\"", StonesEdgesTest::pairClasses);
        checks.test("promise 21 \"at most 10 apart in x\"", StonesEdgesTest::pairsInX);
        checks.test("promise 21 \"and in y\"", StonesEdgesTest::pairsInY);
        checks.test("promise 21 \"their falls are the same, or one has none\"", StonesEdgesTest::pairFalls);
    }

    private static void pairNumbers() {
        Edges.numbers(Scenes.STONES, Scenes::rich, (net, stone) -> net.pair(stone, 3, 5));
        Edges.numbers(Scenes.STONES, Scenes::rich, (net, other) -> net.pair(3, other, 5));
    }

    private static void pairOfOne() {
        for (int i = 0; i < Scenes.STONES; i++) {
            int stone = i;
            Edges.refused(Checks.OUT_OF_RANGE, Scenes::rich, net -> net.pair(stone, stone, 5));
        }
    }

    private static void pairYears() {
        Edges.range(0, 9, Scenes::rich, (net, year) -> Checks.equal(year == 0 ? 0 : 1, net.pair(0, 1, year) ? 1 : 0));
    }

    private static void pairOrder() {
        for (int none : new int[] {-1, Scenes.STONES}) {
            Edges.refused(Checks.NO_SUCH, Scenes::rich, net -> net.pair(none, none, 5));
            Edges.refusedEach(Checks.NO_SUCH, Scenes::rich, (net, year) -> net.pair(none, 0, year), -1, 10);
            Edges.refusedEach(Checks.NO_SUCH, Scenes::rich, (net, year) -> net.pair(0, none, year), -1, 10);
            Edges.refusedEach(Checks.NO_SUCH, Scenes::rich, (net, year) -> net.pair(none, none, year), -1, 10);
        }
    }

    /** Two stones, the other one at the place, with the same minerals. */
    private static FireNet twoStones(int x, int y) {
        FireNet net = new FireNet();
        net.find(50, 50, 5, 100, 0);
        net.find(x, y, 3649, 100, 5);
        net.rule(5, 500, 400);
        net.minerals(0, 500, 3, 4);
        net.minerals(1, 500, 3, 4);
        return net;
    }

    private static void paired(boolean due, FireNet net) {
        Checks.equal(due ? 1 : 0, net.pair(0, 1, 5) ? 1 : 0);
        Checks.equal(due ? 1 : 0, net.pair(1, 0, 5) ? 1 : 0);
    }

    private static void pairClasses() {
        FireNet net = twoStones(50, 50);
        paired(true, net);
        Checks.no(net.pair(0, 1, 4));
        net.minerals(1, 1000, 3, 4);
        paired(true, net);
        net.minerals(1, 499, 3, 4);
        paired(false, net);
        net.minerals(1, 500, 2, 4);
        paired(false, net);
        net.minerals(1, 500, 3, 5);
        paired(false, net);
        FireNet untold = oneStone();
        untold.cut(0, 10, 0);
        untold.rule(0, 0, 0);
        paired(false, untold);
        untold.minerals(0, 0, 0, 0);
        paired(false, untold);
        untold.minerals(1, 0, 0, 0);
        paired(true, untold);
    }

    private static void pairsInX() {
        paired(true, twoStones(60, 50));
        paired(false, twoStones(61, 50));
        paired(true, twoStones(40, 50));
        paired(false, twoStones(39, 50));
    }

    private static void pairsInY() {
        paired(true, twoStones(50, 60));
        paired(false, twoStones(50, 61));
        paired(true, twoStones(50, 40));
        paired(false, twoStones(50, 39));
        paired(true, twoStones(60, 40));
        paired(false, twoStones(61, 39));
    }

    /** Two fireballs that end 5 cells apart, in the nights 10 and 20. */
    private static FireNet twoFalls(int x, int night, int otherX, int otherNight) {
        FireNet net = Nets.threeCameras();
        Nets.fireball(net, 10, 1000, Nets.at(30, 30), Nets.at(30, 40));
        Nets.fireball(net, 20, 1000, Nets.at(30, 30), Nets.at(35, 40));
        net.find(x, 40, night, 100, 0);
        net.find(otherX, 40, otherNight, 100, 0);
        net.rule(5, 0, 0);
        net.minerals(0, 0, 0, 0);
        net.minerals(1, 0, 0, 0);
        return net;
    }

    private static void pairFalls() {
        paired(true, twoFalls(30, 10, 32, 20));
        paired(false, twoFalls(30, 10, 33, 20));
        paired(true, twoFalls(30, 10, 33, 19));
        paired(true, twoFalls(30, 9, 33, 20));
        paired(true, twoFalls(30, 9, 33, 9));
        paired(true, twoFalls(34, 20, 43, 20));
        Checks.equal(-1, twoFalls(34, 20, 43, 20).fall(1));
        Checks.equal(2, twoFalls(34, 20, 42, 20).fall(1));
        paired(false, twoFalls(32, 20, 42, 20));
        paired(true, twoFalls(33, 20, 42, 20));
    }

    // ---- promise 22

    private static void cut(Checks checks) {
        checks.test("promise 22 \"if there is no such stone\"", StonesEdgesTest::cutNumbers);
        checks.test("promise 22 \"grams 1 to 1000000\"", StonesEdgesTest::cutGrams);
        checks.test("promise 22 \"lost 0 to 1000\"", StonesEdgesTest::cutLost);
        checks.test("promise 22 \"if the stone is stolen\": until it is taken back", StonesEdgesTest::cutStolen);
        checks.test("promise 22 \"would not keep at least 1 gram\"", StonesEdgesTest::cutLastGram);
        checks.test("promise 22 \"or there are 40\": the fortieth is taken, the next one refused",
                StonesEdgesTest::cutForty);
        checks.test("promise 22: IndexOutOfBoundsException comes ahead of the others", StonesEdgesTest::cutOrder);
        checks.test("promise 22: IllegalArgumentException comes ahead of IllegalStateException",
                StonesEdgesTest::cutOrderOfRanges);
        checks.test("promise 22 \"the piece is kept, also if the other one is lent\"", StonesEdgesTest::cutLent);
        checks.test("promise 22 \"the cell and night of the find (of the one it was cut from)\"",
                StonesEdgesTest::cutPlace);
    }

    private static void cutNumbers() {
        Edges.numbers(Scenes.STONES, Scenes::rich, (net, stone) ->
                Checks.equal(Scenes.STONES, net.cut(stone, 10, 1)));
    }

    private static void cutGrams() {
        Edges.taken(StonesEdgesTest::heavy, (net, grams) -> {
            Checks.equal(HEAVY + 1, net.cut(HEAVY, grams, 0));
            Checks.equal(grams, net.stone(HEAVY + 1, GRAMS));
            Checks.equal(1000000 - grams, net.stone(HEAVY, GRAMS));
        }, 1, 999999);
        Edges.refusedEach(Checks.OUT_OF_RANGE, StonesEdgesTest::heavy, (net, grams) -> net.cut(HEAVY, grams, 0),
                Integer.MIN_VALUE, -1, 0, 1000001, Integer.MAX_VALUE);
        Edges.refused(Checks.NOT_NOW, StonesEdgesTest::heavy, net -> net.cut(HEAVY, 1000000, 0));
    }

    private static void cutLost() {
        Edges.range(0, 1000, StonesEdgesTest::heavy, (net, lost) -> {
            Checks.equal(HEAVY + 1, net.cut(HEAVY, 1, lost));
            Checks.equal(999999 - lost, net.stone(HEAVY, GRAMS));
            Checks.equal(lost, net.stone(HEAVY, LOST));
        });
    }

    private static void cutStolen() {
        Edges.refused(Checks.NOT_NOW, Scenes::rich, net -> net.cut(Scenes.STOLEN, 1, 0));
        FireNet net = Scenes.rich();
        net.lend(Scenes.STOLEN, -1);
        Checks.equal(Scenes.STONES, net.cut(Scenes.STOLEN, 1, 0));
    }

    private static void cutLastGram() {
        Edges.refused(Checks.NOT_NOW, Scenes::rich, net -> net.cut(Scenes.OF_LAND, 50, 0));
        Edges.refused(Checks.NOT_NOW, Scenes::rich, net -> net.cut(Scenes.OF_LAND, 49, 1));
        Edges.refused(Checks.NOT_NOW, Scenes::rich, net -> net.cut(Scenes.OF_LAND, 1, 49));
        Edges.refused(Checks.NOT_NOW, Scenes::rich, net -> net.cut(Scenes.OF_LAND, 1000000, 1000));
        int[][] cuts = {{49, 0}, {48, 1}, {1, 48}};
        for (int[] cut : cuts) {
            FireNet net = Scenes.rich();
            Checks.equal(Scenes.STONES, net.cut(Scenes.OF_LAND, cut[0], cut[1]));
            Checks.equal(1, net.stone(Scenes.OF_LAND, GRAMS));
            Checks.refused(Checks.NOT_NOW, () -> net.cut(Scenes.OF_LAND, 1, 0));
        }
    }

    private static void cutForty() {
        Checks.equal(61, cutToPieces().stone(0, GRAMS));
        Edges.refused(Checks.NOT_NOW, StonesEdgesTest::cutToPieces, net -> net.cut(0, 1, 0));
        Edges.refused(Checks.NOT_NOW, Scenes::fortyStones, net -> net.cut(0, 1, 1));
    }

    private static void cutOrder() {
        for (int none : new int[] {-1, Scenes.STONES}) {
            Edges.refusedEach(Checks.NO_SUCH, Scenes::rich, (net, grams) -> net.cut(none, grams, 0), 0, 1000001);
            Edges.refusedEach(Checks.NO_SUCH, Scenes::rich, (net, lost) -> net.cut(none, 1, lost), -1, 1001);
        }
        Edges.refusedEach(Checks.NO_SUCH, Scenes::fortyStones, (net, stone) -> net.cut(stone, 1, 0), -1, 40);
        Edges.refusedEach(Checks.NO_SUCH, Scenes::fortyStones, (net, stone) -> net.cut(stone, 0, 0), -1, 40);
    }

    private static void cutOrderOfRanges() {
        outOfRanges(Scenes::rich, Scenes.STOLEN);
        outOfRanges(Scenes::fortyStones, Scenes.FOUND);
        outOfRanges(Scenes::fortyStones, Scenes.STOLEN);
    }

    private static void outOfRanges(Edges.Scene scene, int stone) {
        Edges.refusedEach(Checks.OUT_OF_RANGE, scene, (net, grams) -> net.cut(stone, grams, 0), 0, 1000001);
        Edges.refusedEach(Checks.OUT_OF_RANGE, scene, (net, lost) -> net.cut(stone, 1, lost), -1, 1001);
    }

    private static void cutLent() {
        FireNet net = Scenes.rich();
        int piece = net.cut(Scenes.LENT, 10, 0);
        Checks.equal(FireNet.LENT, net.stone(Scenes.LENT, WHERE));
        Checks.equal(2, net.stone(Scenes.LENT, LABORATORY));
        Checks.equal(FireNet.KEPT, net.stone(piece, WHERE));
        Checks.equal(FireNet.NONE, net.stone(piece, LABORATORY));
        Checks.equal(Scenes.LENT, net.stone(piece, ORIGIN));
    }

    private static void cutPlace() {
        FireNet net = Nets.oneFireball();
        net.find(30, 40, 9, 100, 0);
        net.find(30, 40, 10, 100, 0);
        net.find(38, 40, 10, 100, 0);
        int[] due = {-1, 0, -1};
        for (int i = 0; i < 3; i++) {
            Checks.equal(3 + 2 * i, net.cut(i, 50, 0));
            Checks.equal(4 + 2 * i, net.cut(3 + 2 * i, 20, 0));
            Checks.equal(due[i], net.fall(i));
            Checks.equal(due[i], net.fall(3 + 2 * i));
            Checks.equal(due[i], net.fall(4 + 2 * i));
        }
    }

    // ---- promise 23

    private static void lend(Checks checks) {
        checks.test("promise 23 \"if there is no such stone\"", StonesEdgesTest::lendNumbers);
        checks.test("promise 23 \"laboratory 0 to 3; NONE to take it back\"", StonesEdgesTest::laboratories);
        checks.test("promise 23 \"a stone that is kept to a laboratory\": not one that is lent, or stolen",
                StonesEdgesTest::lendKept);
        checks.test("promise 23 \"takes one that is lent or stolen back\": not one that is kept",
                StonesEdgesTest::takeBack);
        checks.test("promise 23: IndexOutOfBoundsException comes ahead of IllegalArgumentException",
                StonesEdgesTest::lendOrder);
        checks.test("promise 23: IllegalArgumentException comes ahead of IllegalStateException",
                StonesEdgesTest::lendOrderOfLaboratories);
    }

    private static void lendNumbers() {
        Edges.numbers(Scenes.STONES, Scenes::rich, (net, stone) -> net.lend(stone, 1));
        Edges.refusedEach(Checks.NO_SUCH, Scenes::rich, (net, stone) -> net.lend(stone, -1), -1, Scenes.STONES);
    }

    private static void laboratories() {
        Edges.taken(Scenes::rich, (net, laboratory) -> {
            net.lend(Scenes.FOUND, laboratory);
            Checks.equal(FireNet.LENT, net.stone(Scenes.FOUND, WHERE));
            Checks.equal(laboratory, net.stone(Scenes.FOUND, LABORATORY));
        }, 0, 3);
        Edges.refusedEach(Checks.OUT_OF_RANGE, Scenes::rich, (net, laboratory) -> net.lend(Scenes.FOUND, laboratory),
                Integer.MIN_VALUE, -2, 4, Integer.MAX_VALUE);
    }

    private static void lendKept() {
        Edges.refusedEach(Checks.NOT_NOW, Scenes::rich, (net, laboratory) -> net.lend(Scenes.LENT, laboratory), 0, 2,
                3);
        Edges.refusedEach(Checks.NOT_NOW, Scenes::rich, (net, laboratory) -> net.lend(Scenes.STOLEN, laboratory), 0,
                3);
    }

    private static void takeBack() {
        Edges.refused(Checks.NOT_NOW, Scenes::rich, net -> net.lend(Scenes.FOUND, -1));
        Edges.refused(Checks.NOT_NOW, Scenes::rich, net -> net.lend(Scenes.PIECE, -1));
        for (int stone : new int[] {Scenes.LENT, Scenes.STOLEN}) {
            FireNet net = Scenes.rich();
            net.lend(stone, FireNet.NONE);
            Checks.equal(FireNet.KEPT, net.stone(stone, WHERE));
            Checks.equal(FireNet.NONE, net.stone(stone, LABORATORY));
            Checks.refused(Checks.NOT_NOW, () -> net.lend(stone, FireNet.NONE));
            net.lend(stone, 0);
            Checks.equal(0, net.stone(stone, LABORATORY));
        }
    }

    private static void lendOrder() {
        for (int none : new int[] {-1, Scenes.STONES}) {
            Edges.refusedEach(Checks.NO_SUCH, Scenes::rich, (net, laboratory) -> net.lend(none, laboratory), -2, 4);
        }
    }

    private static void lendOrderOfLaboratories() {
        for (int stone : new int[] {Scenes.LENT, Scenes.STOLEN}) {
            Edges.refusedEach(Checks.OUT_OF_RANGE, Scenes::rich, (net, laboratory) -> net.lend(stone, laboratory), -2,
                    4);
        }
    }

    // ---- promise 24

    private static void steal(Checks checks) {
        checks.test("promise 24 \"if there is no such stone\"", StonesEdgesTest::stealNumbers);
        checks.test("promise 24 \"if it is stolen\": until it is taken back", StonesEdgesTest::stealTwice);
        checks.test("promise 24 \"NONE unless it is LENT\": a lent one that is stolen", StonesEdgesTest::stealLent);
    }

    private static void stealNumbers() {
        Edges.numbers(Scenes.STONES, Scenes::rich, (net, stone) -> {
            net.steal(stone);
            Checks.equal(FireNet.STOLEN, net.stone(stone, WHERE));
        });
    }

    private static void stealTwice() {
        Edges.refused(Checks.NOT_NOW, Scenes::rich, net -> net.steal(Scenes.STOLEN));
        FireNet net = Scenes.rich();
        net.lend(Scenes.STOLEN, -1);
        net.steal(Scenes.STOLEN);
        Checks.equal(FireNet.STOLEN, net.stone(Scenes.STOLEN, WHERE));
        Checks.refused(Checks.NOT_NOW, () -> net.steal(Scenes.STOLEN));
    }

    private static void stealLent() {
        FireNet net = Scenes.rich();
        Checks.equal(2, net.stone(Scenes.LENT, LABORATORY));
        net.steal(Scenes.LENT);
        Checks.equal(FireNet.STOLEN, net.stone(Scenes.LENT, WHERE));
        Checks.equal(FireNet.NONE, net.stone(Scenes.LENT, LABORATORY));
        Checks.refused(Checks.NOT_NOW, () -> net.steal(Scenes.LENT));
    }
}

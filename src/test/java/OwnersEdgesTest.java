/** The boundary cases of the promises 25 to 30, a test for each sentence of the document that names one. */
public final class OwnersEdgesTest {
    private static final int GRAMS = 0;
    private static final int OWNER = 1;
    private static final int LABORATORY = 3;
    private static final int ORIGIN = 4;
    private static final int NAME = 5;
    private static final int DOUBTFUL = 6;
    private static final int LOST = 7;

    private OwnersEdgesTest() {
    }

    public static void main(String[] args) {
        Checks checks = new Checks();
        law(checks);
        give(checks);
        name(checks);
        doubt(checks);
        stone(checks);
        whole(checks);
        checks.finish();
    }

    private static FireNet withStones(int count) {
        FireNet net = new FireNet();
        for (int i = 0; i < count; i++) {
            net.find(10, 10, 5, 100, 0);
        }
        return net;
    }

    // ---- promise 25

    private static void law(Checks checks) {
        checks.test("promise 25 \"land 0 to 3\"", OwnersEdgesTest::lawLands);
        checks.test("promise 25 \"law 0 to 2\"", OwnersEdgesTest::laws);
        checks.test("promise 25 \"the law before\": 0 at first, and not by a refused call", OwnersEdgesTest::lawBefore);
        checks.test("promise 25 \"for finds and gifts from now on\": not for those ahead", OwnersEdgesTest::lawFromNow);
    }

    private static void lawLands() {
        Edges.range(0, 3, Scenes::rich, (net, land) -> {
            Checks.equal(0, net.law(land, 1));
            Checks.equal(1, net.law(land, 0));
        });
    }

    private static void laws() {
        Edges.range(0, 2, Scenes::rich, (net, law) -> {
            Checks.equal(2, net.law(2, law));
            Checks.equal(law, net.law(2, 0));
        });
    }

    private static void lawBefore() {
        FireNet net = new FireNet();
        for (int land = 0; land < 4; land++) {
            Checks.equal(0, net.law(land, 2));
            int told = land;
            Checks.refused(Checks.OUT_OF_RANGE, () -> net.law(told, 3));
            Checks.equal(2, net.law(land, 2));
            Checks.equal(2, net.law(land, 1));
        }
        for (int land = 0; land < 4; land++) {
            Checks.equal(1, net.law(land, 0));
        }
    }

    private static void lawFromNow() {
        FireNet net = withStones(2);
        net.give(0, 1);
        net.law(0, 1);
        Checks.equal(1, net.stone(0, OWNER));
        Checks.equal(0, net.stone(1, OWNER));
        net.law(0, 2);
        Checks.equal(1, net.stone(0, OWNER));
        Checks.refused(Checks.NOT_NOW, () -> net.give(1, 1));
        net.law(0, 0);
        Checks.equal(0, net.give(1, 1));
    }

    // ---- promise 26

    private static void give(Checks checks) {
        checks.test("promise 26 \"if there is no such stone\"", OwnersEdgesTest::giveNumbers);
        checks.test("promise 26 \"person 0 to 5\"", OwnersEdgesTest::givePersons);
        checks.test("promise 26 \"if it is not kept\": lent or stolen, until it is taken back",
                OwnersEdgesTest::giveNotKept);
        checks.test("promise 26 \"that is its owner\"", OwnersEdgesTest::giveOwner);
        checks.test("promise 26 \"or the law forbids it\": just the law 2, as it is where the stone was found",
                OwnersEdgesTest::giveForbidden);
        checks.test("promise 26 \"people p live in the land p modulo 4\": 4 and 5 live with 0 and 1",
                OwnersEdgesTest::giveModulo);
        checks.test("promise 26 \"where it was found\": at the borders of lands", OwnersEdgesTest::giveAtBorders);
        checks.test("promise 26 \"10 and the land, for a land\": the owner before", OwnersEdgesTest::giveOfLand);
        checks.test("promise 26: IndexOutOfBoundsException comes ahead of IllegalArgumentException",
                OwnersEdgesTest::giveOrder);
        checks.test("promise 26: IllegalArgumentException comes ahead of IllegalStateException",
                OwnersEdgesTest::giveOrderOfPersons);
    }

    private static void giveNumbers() {
        Edges.numbers(Scenes.STONES, Scenes::rich, (net, stone) -> net.give(stone, 5));
    }

    private static void givePersons() {
        Edges.range(0, 5, Scenes::rich, (net, person) -> {
            Checks.equal(2, net.give(Scenes.FOUND, person));
            Checks.equal(person, net.stone(Scenes.FOUND, OWNER));
        });
    }

    private static FireNet lentHome() {
        FireNet net = Scenes.rich();
        net.law(2, 0);
        return net;
    }

    private static void giveNotKept() {
        Edges.refusedEach(Checks.NOT_NOW, OwnersEdgesTest::lentHome, (net, stone) -> net.give(stone, 2), Scenes.LENT,
                Scenes.STOLEN);
        FireNet net = lentHome();
        net.lend(Scenes.LENT, -1);
        net.lend(Scenes.STOLEN, -1);
        Checks.equal(4, net.give(Scenes.LENT, 2));
        Checks.equal(5, net.give(Scenes.STOLEN, 2));
    }

    private static void giveOwner() {
        Edges.refused(Checks.NOT_NOW, Scenes::rich, net -> net.give(Scenes.FOUND, 2));
        Edges.refused(Checks.NOT_NOW, Scenes::rich, net -> net.give(Scenes.PIECE, 2));
        FireNet net = Scenes.rich();
        Checks.equal(2, net.give(Scenes.FOUND, 3));
        Checks.refused(Checks.NOT_NOW, () -> net.give(Scenes.FOUND, 3));
        Checks.equal(3, net.give(Scenes.FOUND, 2));
        Checks.equal(2, net.give(Scenes.PIECE, 3));
    }

    /** A stone of the land that the person 5 found, under the law. */
    private static FireNet foundIn(int land, int law) {
        FireNet net = new FireNet();
        net.find(land % 2 * 50, land / 2 * 50, 5, 100, 5);
        net.law(land, law);
        return net;
    }

    private static void giveForbidden() {
        for (int i = 0; i < 4; i++) {
            int land = i;
            for (int person = 0; person < 5; person++) {
                Checks.equal(5, foundIn(land, 0).give(0, person));
                Checks.equal(5, foundIn(land, 1).give(0, person));
            }
            Checks.equal(5, foundIn(land, 2).give(0, land));
            Edges.refused(Checks.NOT_NOW, () -> foundIn(land, 2), net -> net.give(0, (land + 1) % 4));
            Edges.refused(Checks.NOT_NOW, () -> foundIn(land, 2), net -> net.give(0, (land + 3) % 4));
            FireNet elsewhere = foundIn(land, 0);
            elsewhere.law((land + 1) % 4, 2);
            Checks.equal(5, elsewhere.give(0, (land + 2) % 4));
        }
    }

    private static void giveModulo() {
        Checks.equal(5, foundIn(0, 2).give(0, 4));
        Checks.equal(5, foundIn(0, 2).give(0, 0));
        Checks.equal(5, foundIn(1, 2).give(0, 1));
        Edges.refused(Checks.NOT_NOW, () -> foundIn(1, 2), net -> net.give(0, 4));
        Edges.refused(Checks.NOT_NOW, () -> foundIn(2, 2), net -> net.give(0, 4));
        FireNet net = foundIn(1, 2);
        net.give(0, 1);
        Checks.equal(1, net.give(0, 5));
        FireNet home = withStones(1);
        home.law(0, 2);
        Checks.refused(Checks.NOT_NOW, () -> home.give(0, 5));
    }

    private static void giveAtBorders() {
        int[] sides = {0, 49, 50, 99};
        for (int x : sides) {
            for (int y : sides) {
                FireNet net = new FireNet();
                int land = (x > 49 ? 1 : 0) + (y > 49 ? 2 : 0);
                net.law(land, 2);
                net.find(x, y, 5, 100, 5);
                Checks.refused(Checks.NOT_NOW, () -> net.give(0, (land + 1) % 4));
                Checks.equal(5, net.give(0, land));
                Checks.equal(1, net.cut(0, 10, 0));
                Checks.refused(Checks.NOT_NOW, () -> net.give(1, (land + 2) % 4));
            }
        }
    }

    private static void giveOfLand() {
        FireNet net = Scenes.rich();
        Checks.equal(11, net.give(Scenes.OF_LAND, 1));
        Checks.equal(1, net.give(Scenes.OF_LAND, 0));
        Checks.equal(0, net.stone(Scenes.OF_LAND, OWNER));
    }

    private static void giveOrder() {
        for (int none : new int[] {-1, Scenes.STONES}) {
            Edges.refusedEach(Checks.NO_SUCH, Scenes::rich, (net, person) -> net.give(none, person), -1, 6);
        }
    }

    private static void giveOrderOfPersons() {
        for (int stone : new int[] {Scenes.LENT, Scenes.STOLEN}) {
            Edges.refusedEach(Checks.OUT_OF_RANGE, Scenes::rich, (net, person) -> net.give(stone, person), -1, 6);
        }
        Edges.refused(Checks.OUT_OF_RANGE, Scenes::rich, net -> net.give(Scenes.OF_LAND, 11));
        Edges.refusedEach(Checks.OUT_OF_RANGE, () -> foundIn(1, 2), (net, person) -> net.give(0, person), -1, 6);
    }

    // ---- promise 27

    private static void name(Checks checks) {
        checks.test("promise 27 \"if there is no such stone\"", OwnersEdgesTest::nameNumbers);
        checks.test("promise 27 \"place 0 to 9\"", OwnersEdgesTest::namePlaces);
        checks.test("promise 27 \"if it has an own name\": after the same place, or another one",
                OwnersEdgesTest::nameTwice);
        checks.test("promise 27 \"an own name\": that of the one from which it was cut isn't",
                OwnersEdgesTest::namePieces);
        checks.test("promise 27 \"a stone that has none can be named\": also one that is lent, or stolen",
                OwnersEdgesTest::nameNotKept);
        checks.test("promise 27 \"the next number of that place, from 1 on\": up to 40, not used up by a refused call",
                OwnersEdgesTest::nameNext);
        checks.test("promise 27: IndexOutOfBoundsException comes ahead of IllegalArgumentException",
                OwnersEdgesTest::nameOrder);
        checks.test("promise 27: IllegalArgumentException comes ahead of IllegalStateException",
                OwnersEdgesTest::nameOrderOfPlaces);
    }

    private static void nameNumbers() {
        Edges.numbers(3, () -> withStones(3), (net, stone) -> Checks.equal(1, net.name(stone, 4)));
        Edges.refusedEach(Checks.NO_SUCH, Scenes::rich, (net, stone) -> net.name(stone, 4), -1, Scenes.STONES);
    }

    private static void namePlaces() {
        Edges.range(0, 9, Scenes::rich, (net, place) -> {
            Checks.equal(place == 0 ? 1 : 2, net.name(Scenes.NEAR, place));
            Checks.equal(place == 0 ? 1 : 902, net.stone(Scenes.NEAR, NAME));
        });
    }

    private static void nameTwice() {
        Edges.refusedEach(Checks.NOT_NOW, Scenes::rich, (net, place) -> net.name(Scenes.FOUND, place), 0, 4, 9);
        Edges.refusedEach(Checks.NOT_NOW, Scenes::rich, (net, place) -> net.name(Scenes.NAMED_PIECE, place), 0, 4, 9);
    }

    private static void namePieces() {
        FireNet net = Scenes.rich();
        Checks.equal(401, net.stone(Scenes.PIECE, NAME));
        Checks.equal(3, net.name(Scenes.PIECE, 4));
        Checks.equal(403, net.stone(Scenes.PIECE, NAME));
        Checks.equal(401, net.stone(Scenes.FOUND, NAME));
        Checks.equal(402, net.stone(Scenes.NAMED_PIECE, NAME));
        Checks.refused(Checks.NOT_NOW, () -> net.name(Scenes.PIECE, 4));
    }

    private static void nameNotKept() {
        FireNet net = Scenes.rich();
        Checks.equal(2, net.name(Scenes.STOLEN, 9));
        Checks.equal(902, net.stone(Scenes.STOLEN, NAME));
        Checks.no(net.doubt(Scenes.STOLEN, true));
        Checks.equal(1, net.stone(Scenes.STOLEN, DOUBTFUL));
        net.lend(Scenes.NEAR, 1);
        Checks.equal(3, net.name(Scenes.NEAR, 9));
        net.steal(Scenes.PIECE);
        Checks.equal(401, net.stone(Scenes.PIECE, NAME));
        Checks.equal(1, net.stone(Scenes.PIECE, DOUBTFUL));
    }

    private static void nameNext() {
        FireNet net = withStones(40);
        for (int i = 0; i < 40; i++) {
            int stone = i;
            Checks.equal(i + 1, net.name(stone, 9));
            Checks.refused(Checks.NOT_NOW, () -> net.name(stone, 9));
            Checks.refused(Checks.OUT_OF_RANGE, () -> net.name(stone, 10));
            Checks.equal(900 + i + 1, net.stone(stone, NAME));
        }
        FireNet places = withStones(20);
        for (int i = 0; i < 20; i++) {
            Checks.equal(i / 10 + 1, places.name(i, i % 10));
            Checks.equal(100 * (i % 10) + i / 10 + 1, places.stone(i, NAME));
        }
    }

    private static void nameOrder() {
        for (int none : new int[] {-1, Scenes.STONES}) {
            Edges.refusedEach(Checks.NO_SUCH, Scenes::rich, (net, place) -> net.name(none, place), -1, 10);
        }
    }

    private static void nameOrderOfPlaces() {
        Edges.refusedEach(Checks.OUT_OF_RANGE, Scenes::rich, (net, place) -> net.name(Scenes.FOUND, place), -1, 10);
    }

    // ---- promise 28

    private static void doubt(Checks checks) {
        checks.test("promise 28 \"if there is no such stone\"", OwnersEdgesTest::doubtNumbers);
        checks.test("promise 28 \"if it has no own name\": none at all, or that of another one",
                OwnersEdgesTest::doubtWithoutName);
        checks.test("promise 28 \"whether it was\": not at first, nor by a refused call", OwnersEdgesTest::doubtBefore);
        checks.test("promise 28 \"as that has it by now, doubtful or not, if it has no own one\"",
                OwnersEdgesTest::doubtOfPieces);
    }

    private static void doubtNumbers() {
        Edges.refusedEach(Checks.NO_SUCH, Scenes::rich, (net, stone) -> net.doubt(stone, true), Integer.MIN_VALUE, -1,
                Scenes.STONES, Integer.MAX_VALUE);
        Edges.refusedEach(Checks.NO_SUCH, Scenes::rich, (net, stone) -> net.doubt(stone, false), -1, Scenes.STONES);
        Checks.yes(Scenes.rich().doubt(0, false));
    }

    private static void doubtWithoutName() {
        for (boolean is : new boolean[] {true, false}) {
            Edges.refusedEach(Checks.NOT_NOW, Scenes::rich, (net, stone) -> net.doubt(stone, is), Scenes.PIECE,
                    Scenes.OF_LAND, Scenes.NEAR);
        }
        FireNet net = Scenes.rich();
        net.name(Scenes.NEAR, 0);
        Checks.no(net.doubt(Scenes.NEAR, true));
    }

    private static void doubtBefore() {
        FireNet net = withStones(1);
        Checks.refused(Checks.NOT_NOW, () -> net.doubt(0, true));
        net.name(0, 0);
        Checks.no(net.doubt(0, false));
        Checks.no(net.doubt(0, true));
        Checks.yes(net.doubt(0, true));
        Checks.yes(net.doubt(0, false));
        Checks.no(net.doubt(0, false));
    }

    private static void doubtOfPieces() {
        FireNet net = withStones(1);
        net.cut(0, 50, 0);
        net.cut(1, 20, 0);
        doubtIs(net, 0, 0, 0);
        net.name(0, 1);
        net.doubt(0, true);
        doubtIs(net, 1, 1, 1);
        net.name(1, 1);
        doubtIs(net, 1, 0, 0);
        net.doubt(0, false);
        net.doubt(1, true);
        doubtIs(net, 0, 1, 1);
        net.cut(1, 5, 0);
        Checks.equal(1, net.stone(3, DOUBTFUL));
        net.doubt(1, false);
        Checks.equal(0, net.stone(3, DOUBTFUL));
    }

    private static void doubtIs(FireNet net, int... due) {
        for (int i = 0; i < due.length; i++) {
            Checks.equal(due[i], net.stone(i, DOUBTFUL));
        }
    }

    // ---- promise 29

    private static void stone(Checks checks) {
        checks.test("promise 29 \"if there is no such stone\"", OwnersEdgesTest::stoneNumbers);
        checks.test("promise 29 \"what 0 .. 7\"", OwnersEdgesTest::stoneWhat);
        checks.test("promise 29: IndexOutOfBoundsException comes ahead of IllegalArgumentException",
                OwnersEdgesTest::stoneOrder);
        checks.test("promise 29 \"its laboratory, NONE unless it is LENT\"", OwnersEdgesTest::stoneLaboratories);
        checks.test("promise 29 \"the stone from which it was cut, NONE without\"", OwnersEdgesTest::stoneOrigins);
        checks.test("promise 29 \"100 times the place of its name, and its number, together, NONE without\"",
                OwnersEdgesTest::stoneNames);
        checks.test("promise 29 \"whether that is doubtful, 1 or 0\": 0 without a name", OwnersEdgesTest::stoneDoubts);
        checks.test("promise 29 \"the grams that were lost by cuts of it\": 0 at first, not those of its pieces",
                OwnersEdgesTest::stoneLost);
    }

    private static void stoneNumbers() {
        Edges.numbers(Scenes.STONES, Scenes::rich, (net, stone) -> net.stone(stone, 0));
        Edges.numbers(40, Scenes::fortyStones, (net, stone) -> net.stone(stone, 7));
    }

    private static void stoneWhat() {
        Edges.range(0, 7, Scenes::rich, (net, what) -> Checks.equal(what == 0 ? 680 : 20, net.stone(0, what)));
    }

    private static void stoneOrder() {
        for (int none : new int[] {-1, Scenes.STONES}) {
            Edges.refusedEach(Checks.NO_SUCH, Scenes::rich, (net, what) -> net.stone(none, what), -1, 8);
        }
    }

    private static void stonesAre(FireNet net, int what, int... due) {
        for (int i = 0; i < due.length; i++) {
            Checks.equal(due[i], net.stone(i, what));
        }
    }

    private static void stoneLaboratories() {
        FireNet net = Scenes.rich();
        stonesAre(net, LABORATORY, -1, -1, -1, -1, 2, -1, -1);
        net.lend(0, 0);
        net.lend(1, 3);
        net.steal(1);
        net.lend(4, -1);
        stonesAre(net, LABORATORY, 0, -1, -1, -1, -1, -1, -1);
    }

    private static void stoneOrigins() {
        stonesAre(Scenes.rich(), ORIGIN, -1, 0, 1, -1, -1, -1, -1);
    }

    private static void stoneNames() {
        stonesAre(Scenes.rich(), NAME, 401, 401, 402, -1, 901, -1, -1);
    }

    private static void stoneDoubts() {
        stonesAre(Scenes.rich(), DOUBTFUL, 1, 1, 0, 0, 0, 0, 0);
    }

    private static void stoneLost() {
        stonesAre(Scenes.rich(), LOST, 20, 5, 0, 0, 0, 0, 0);
    }

    // ---- promise 30

    private static void whole(Checks checks) {
        checks.test("promise 30 \"if there is no such stone\"", OwnersEdgesTest::wholeNumbers);
        checks.test("promise 30 \"and itself\": a stone that was not cut, of the least and the greatest weight",
                OwnersEdgesTest::wholeOfItself);
        checks.test("promise 30 \"directly or over others\": a chain of 40 stones", OwnersEdgesTest::wholeChain);
        checks.test("promise 30 \"all that was lost by their cuts\": 39 times 1000 grams", OwnersEdgesTest::wholeLost);
        checks.test("promise 30 \"all stones that were cut from one\": not those from which it was cut",
                OwnersEdgesTest::wholeOfPieces);
    }

    private static void wholeNumbers() {
        Edges.numbers(Scenes.STONES, Scenes::rich, (net, stone) -> net.whole(stone));
        Edges.refused(Checks.NO_SUCH, Scenes::fortyStones, net -> net.whole(40));
    }

    private static void wholeOfItself() {
        FireNet net = new FireNet();
        net.find(5, 5, 5, 1, 5);
        net.find(5, 5, 5, 1000000, 5);
        Checks.equal(1, net.whole(0));
        Checks.equal(1000000, net.whole(1));
        Checks.refused(Checks.NOT_NOW, () -> net.cut(0, 1, 0));
        Checks.equal(1, net.whole(0));
    }

    private static void wholeChain() {
        FireNet net = new FireNet();
        net.find(5, 5, 5, 1000, 5);
        for (int i = 0; i < 39; i++) {
            net.cut(i, 1000 - 20 * (i + 1), 3);
        }
        for (int i = 0; i < 40; i++) {
            Checks.equal(1000 - 20 * i, net.whole(i));
        }
    }

    private static void wholeLost() {
        FireNet net = new FireNet();
        net.find(5, 5, 5, 1000000, 5);
        for (int i = 0; i < 39; i++) {
            net.cut(0, 1, 1000);
            Checks.equal(1000000, net.whole(0));
        }
        Checks.equal(39000, net.stone(0, LOST));
        Checks.equal(1000000 - 39039, net.stone(0, GRAMS));
        Checks.equal(1, net.whole(39));
    }

    private static void wholeOfPieces() {
        FireNet net = Scenes.rich();
        int[] due = {1000, 300, 100, 50, 60, 70, 80};
        for (int i = 0; i < due.length; i++) {
            Checks.equal(due[i], net.whole(i));
        }
    }
}

import java.util.ArrayList;
import java.util.List;

/** Runs of calls by number, each given to a FireNet and to a Model: the answers must be the same. */
public final class ModelTest {
    private static final int RUNS = 160;
    /** An object is used for at most 512 calls, and a step makes at most 3. */
    private static final int MOST_CALLS = 512 - 3;

    private final FireNet net = new FireNet();
    private final Model model = new Model();
    /** Falls that sightings of the run are of: night, second, and the cells of beginning and end. */
    private final List<int[]> events = new ArrayList<>();
    private final int kind;
    private long seed;
    private String call = "";
    private int calls = 0;

    private interface Answer {
        long give();
    }

    private interface Deed {
        void run();
    }

    private ModelTest(int run) {
        kind = run % 4;
        seed = 1000003L * run + 17;
        int count = 2 + number(5);
        int nights = 1 + number(3);
        for (int i = 0; i < count; i++) {
            events.add(new int[] {300 + 40 * number(nights), 2000 + 30 * number(4), 10 + number(80), 10 + number(80),
                    10 + number(80), 10 + number(80)});
        }
    }

    public static void main(String[] args) {
        Checks checks = new Checks();
        for (int run = 0; run < RUNS; run++) {
            int number = run;
            checks.test("all promises: run " + run + " by the model", () -> new ModelTest(number).compare());
        }
        checks.finish();
    }

    private void compare() {
        for (int i = 0; calls <= MOST_CALLS; i++) {
            step(i);
        }
    }

    // ---- the same numbers in each run

    private int number(int bound) {
        seed = seed * 6364136223846793005L + 1442695040888963407L;
        return (int) Long.remainderUnsigned(seed >>> 33, bound);
    }

    private int between(int least, int most) {
        return least + number(most - least + 1);
    }

    /** Now and then a number one beside its range, or at its end. */
    private int about(int usual, int least, int most) {
        switch (number(60)) {
            case 0:
                return least - 1;
            case 1:
                return most + 1;
            case 2:
                return least;
            case 3:
                return most;
            default:
                return Math.max(least, Math.min(most, usual));
        }
    }

    private int about(int least, int most) {
        return about(between(least, most), least, most);
    }

    // ---- comparing

    private static String toldByModel(Answer answer) {
        try {
            return String.valueOf(answer.give());
        } catch (RuntimeException e) {
            return e.getClass().getSimpleName();
        }
    }

    private static String toldByNet(Answer answer) {
        try {
            return String.valueOf(answer.give());
        } catch (RuntimeException e) {
            return Checks.isThrownByFireNet(e) ? e.getClass().getSimpleName() : "of the machine: " + e;
        }
    }

    private void same(Answer due, Answer got) {
        calls++;
        String dueTold = toldByModel(due);
        String gotTold = toldByNet(got);
        if (!dueTold.equals(gotTold)) {
            throw new AssertionError(call + " answered " + gotTold + ", due is " + dueTold);
        }
    }

    private void sameDeed(Deed due, Deed got) {
        same(() -> done(due), () -> done(got));
    }

    private static long done(Deed deed) {
        deed.run();
        return 0;
    }

    private static long bit(boolean is) {
        return is ? 1 : 0;
    }

    private void called(int step, String name, int... arguments) {
        StringBuilder text = new StringBuilder("call " + step + ": " + name);
        for (int argument : arguments) {
            text.append(' ').append(argument);
        }
        call = text.toString();
    }

    // ---- steps

    private void step(int i) {
        if (i < 4) {
            camera(i);
            return;
        }
        int dice = number(100);
        if (i < 90 && kind != 2) {
            if (dice < 70) {
                sighting(i);
            } else if (dice < 80) {
                sky(i);
            } else {
                askSky(i);
            }
        } else if (kind == 0) {
            anyOf(i, dice, 25, 50, 65, 85);
        } else if (kind == 1) {
            anyOf(i, dice, 5, 15, 75, 90);
        } else if (kind == 2) {
            anyOf(i, dice, 1, 2, 3, 60);
        } else {
            anyOf(i, dice, 15, 35, 60, 85);
        }
    }

    private void anyOf(int i, int dice, int sighting, int sky, int field, int stone) {
        if (dice < sighting) {
            sighting(i);
        } else if (dice < sky) {
            if (number(3) == 0) {
                sky(i);
            } else {
                askSky(i);
            }
        } else if (dice < field) {
            field(i);
        } else if (dice < stone) {
            stoneDeed(i);
        } else {
            askStone(i);
        }
    }

    private void camera(int i) {
        int x = about(0, 99);
        int y = about(0, 99);
        int wrong = about(between(-6, 6), -99, 99);
        called(i, "camera", x, y, wrong);
        same(() -> model.camera(x, y, wrong), () -> net.camera(x, y, wrong));
    }

    private int anyCamera() {
        return about(0, Math.max(0, model.cameraCount() - 1));
    }

    private void sighting(int i) {
        int[] event = events.get(number(events.size()));
        int camera = anyCamera();
        int[] at = camera >= 0 && camera < model.cameraCount() ? model.cameraAt(camera) : new int[3];
        int night = about(event[0], 0, 3649);
        int second = about(event[1] + at[2] + between(-4, 4), 0, 86399);
        int length = about(number(8) == 0 ? between(28, 33) : between(1, 12), 1, 60);
        int light = about(number(8) == 0 ? between(48, 52) : between(50, 900), 1, 1000);
        called(i, "begin", camera, night, second, length, light);
        sameDeed(() -> model.begin(camera, night, second, length, light),
                () -> net.begin(camera, night, second, length, light));
        if (number(25) == 0) {
            cloud(i, camera, night);
        }
        int beginX = about(event[2] - at[0] + number(6) / 5, -100, 100);
        int beginY = about(event[3] - at[1], -100, 100);
        int endX = about(event[4] - at[0] + number(6) / 5, -100, 100);
        int endY = about(event[5] - at[1], -100, 100);
        called(i, "end", beginX, beginY, endX, endY);
        same(() -> model.end(beginX, beginY, endX, endY), () -> net.end(beginX, beginY, endX, endY));
    }

    private void cloud(int i, int camera, int night) {
        called(i, "cloud", camera, night);
        same(() -> model.cloud(camera, night), () -> net.cloud(camera, night));
    }

    private void sky(int i) {
        int camera = anyCamera();
        switch (number(4)) {
            case 0:
                camera(i);
                return;
            case 1:
                int wrong = about(between(-8, 8), -99, 99);
                called(i, "clock", camera, wrong);
                same(() -> model.clock(camera, wrong), () -> net.clock(camera, wrong));
                return;
            default:
                cloud(i, camera, about(between(295, 390), 0, 3649));
        }
    }

    private int anySighting() {
        return about(0, Math.max(0, model.sightingCount() - 1));
    }

    private int anyFireball() {
        List<Integer> fireballs = new ArrayList<>(model.allFireballs().keySet());
        return fireballs.isEmpty() || number(12) == 0 ? anySighting() : fireballs.get(number(fireballs.size()));
    }

    private int anyNight() {
        return about(events.get(number(events.size()))[0] + (number(2) == 0 ? 0 : between(-1, 50)), 0, 3649);
    }

    private void askSky(int i) {
        int one = anyFireball();
        int other = anyFireball();
        int sighting = anySighting();
        int night = anyNight();
        switch (number(6)) {
            case 0:
                called(i, "fireball", sighting);
                same(() -> model.fireball(sighting), () -> net.fireball(sighting));
                return;
            case 1:
                called(i, "fireballAnew", sighting);
                same(() -> model.fireball(sighting), () -> net.fireballAnew(sighting));
                return;
            case 2:
                called(i, "fireballs", night);
                same(() -> model.fireballs(night), () -> net.fireballs(night));
                return;
            case 3:
                called(i, "stream", one, other);
                same(() -> bit(model.stream(one, other)), () -> bit(net.stream(one, other)));
                return;
            case 4:
                flux(i, night, Math.min(3649, night + number(60)));
                return;
            default:
                int what = about(0, 7);
                called(i, "told", one, what);
                same(() -> model.told(one, what), () -> net.told(one, what));
        }
    }

    private void flux(int i, int from, int usualTo) {
        int to = about(usualTo, from, 3649);
        int mass = about(between(0, 6000), 0, 100000);
        called(i, "flux", from, to, mass);
        same(() -> model.flux(from, to, mass), () -> net.flux(from, to, mass));
    }

    /** A cell near the end of a fireball, if there is one of that number. */
    private int[] cellNear(int fireball) {
        int[] cell = {number(100), number(100)};
        if (number(10) > 0 && model.allFireballs().containsKey(fireball)) {
            cell = model.endCell(fireball);
            cell[0] += between(-9, 9);
            cell[1] += between(-9, 9);
        }
        return new int[] {about(cell[0], 0, 99), about(cell[1], 0, 99)};
    }

    private void field(int i) {
        int fireball = anyFireball();
        int[] cell = cellNear(fireball);
        switch (number(5)) {
            case 0:
                int night = number(4) > 0 ? events.get(number(events.size()))[0] : anyNight();
                int x = about(between(-8, 8), -20, 20);
                int y = about(between(-8, 8), -20, 20);
                called(i, "wind", night, x, y);
                sameDeed(() -> model.wind(night, x, y), () -> net.wind(night, x, y));
                return;
            case 1:
                int skill = about(1, 100);
                called(i, "walk", fireball, cell[0], cell[1], skill);
                same(() -> model.walk(fireball, cell[0], cell[1], skill),
                        () -> net.walk(fireball, cell[0], cell[1], skill));
                return;
            default:
                called(i, "chance", fireball, cell[0], cell[1]);
                same(() -> model.chance(fireball, cell[0], cell[1]), () -> net.chance(fireball, cell[0], cell[1]));
        }
    }

    private int anyStone() {
        return about(0, Math.max(0, model.stoneCount() - 1));
    }

    private void stoneDeed(int i) {
        int stone = anyStone();
        switch (number(10)) {
            case 0:
            case 1:
                find(i);
                return;
            case 2:
                int grams = about(number(4) > 0 ? between(1, 60) : between(1, 2000), 1, 1000000);
                int lost = about(between(0, 20), 0, 1000);
                called(i, "cut", stone, grams, lost);
                same(() -> model.cut(stone, grams, lost), () -> net.cut(stone, grams, lost));
                return;
            case 3:
                int laboratory = number(2) == 0 ? -1 : about(-1, 3);
                called(i, "lend", stone, laboratory);
                sameDeed(() -> model.lend(stone, laboratory), () -> net.lend(stone, laboratory));
                return;
            case 4:
                called(i, "steal", stone);
                sameDeed(() -> model.steal(stone), () -> net.steal(stone));
                return;
            case 5:
                int person = about(0, 5);
                called(i, "give", stone, person);
                same(() -> model.give(stone, person), () -> net.give(stone, person));
                return;
            case 6:
            case 7:
                names(i, stone);
                return;
            default:
                rules(i, stone);
        }
    }

    private void find(int i) {
        int[] cell = cellNear(anyFireball());
        int night = anyNight();
        int grams = about(between(1, 3000), 1, 1000000);
        int finder = about(0, 5);
        called(i, "find", cell[0], cell[1], night, grams, finder);
        same(() -> model.find(cell[0], cell[1], night, grams, finder),
                () -> net.find(cell[0], cell[1], night, grams, finder));
    }

    private void names(int i, int stone) {
        if (number(2) == 0) {
            int place = about(number(2) == 0 ? 3 : between(0, 9), 0, 9);
            called(i, "name", stone, place);
            same(() -> model.name(stone, place), () -> net.name(stone, place));
        } else {
            boolean is = number(2) == 0;
            called(i, "doubt", stone, is ? 1 : 0);
            same(() -> bit(model.doubt(stone, is)), () -> bit(net.doubt(stone, is)));
        }
    }

    private void rules(int i, int stone) {
        int dice = number(4);
        if (dice == 0) {
            int land = about(0, 3);
            int law = about(0, 2);
            called(i, "law", land, law);
            same(() -> model.law(land, law), () -> net.law(land, law));
        } else if (dice == 1) {
            int year = about(number(3) == 0 ? between(0, 9) : 0, 0, 9);
            int first = about(between(45, 55), 0, 1000);
            int second = about(first - number(8), 0, first);
            called(i, "rule", year, first, second);
            sameDeed(() -> model.rule(year, first, second), () -> net.rule(year, first, second));
        } else {
            int iron = about(between(45, 54), 0, 1000);
            int texture = about(number(5) / 4, 0, 9);
            int shock = about(5 + number(6) / 5, 0, 9);
            called(i, "minerals", stone, iron, texture, shock);
            sameDeed(() -> model.minerals(stone, iron, texture, shock),
                    () -> net.minerals(stone, iron, texture, shock));
        }
    }

    private void askStone(int i) {
        int one = anyStone();
        int other = anyStone();
        int year = about(0, 9);
        int what = about(0, 7);
        switch (number(6)) {
            case 0:
                called(i, "fall", one);
                same(() -> model.fall(one), () -> net.fall(one));
                return;
            case 1:
                called(i, "classOf", one, year);
                same(() -> model.classOf(one, year), () -> net.classOf(one, year));
                return;
            case 2:
                called(i, "pair", one, other, year);
                same(() -> bit(model.pair(one, other, year)), () -> bit(net.pair(one, other, year)));
                return;
            case 3:
                called(i, "whole", one);
                same(() -> model.whole(one), () -> net.whole(one));
                return;
            default:
                called(i, "stone", one, what);
                same(() -> model.stone(one, what), () -> net.stone(one, what));
        }
    }
}

import java.util.ArrayList;
import java.util.List;

/** Questions and deeds, the answers to which show the whole state of a net; they are kept, a line each. */
final class Probe {
    /** Each is given to a net of its own, so that nets of Scenes stay below 512 calls. */
    static final List<Kind> ALL = List.of(Probe::sightings, Probe::begun, Probe::clocks, Probe::fields,
            Probe::countedUp, Probe::stones, Probe::kinds, Probe::named, Probe::rules, Probe::irons,
            Probe::lawsAndNames);

    private static final int[] NIGHTS = {0, 9, 10, 11, 12, 20, 21, 30, 3649};
    private static final int[] SIDES = {20, 70};
    /** Bounds round the irons that are told in Scenes, and in the calls that are to be refused. */
    private static final int[] BOUNDS = {0, 1, 2, 300, 400, 401, 420, 421, 450, 451, 999, 1000};

    private final FireNet net;
    private final List<String> answers = new ArrayList<>();

    interface Kind {
        void of(Probe probe);
    }

    private interface Question {
        long answer();
    }

    private interface NumberedQuestion {
        long answer(int number);
    }

    private Probe(FireNet net) {
        this.net = net;
    }

    static List<String> answers(Kind kind, FireNet net) {
        Probe probe = new Probe(net);
        kind.of(probe);
        return probe.answers;
    }

    /** Tells whether there was an answer, no exception. */
    private boolean ask(String call, Question question) {
        try {
            answers.add(call + " answers " + question.answer());
            return true;
        } catch (RuntimeException e) {
            answers.add(call + " throws " + e.getClass().getSimpleName());
            return false;
        }
    }

    private List<Integer> fireballs() {
        List<Integer> found = new ArrayList<>();
        for (int i = 0; i < 60; i++) {
            int sighting = i;
            if (!ask("fireball " + i, () -> net.fireball(sighting))) {
                break;
            }
            if (net.fireball(i) == i) {
                found.add(i);
            }
        }
        return found;
    }

    private void toldOf(int fireball) {
        for (int i = 0; i < 8; i++) {
            int what = i;
            ask("told " + fireball + " " + what, () -> net.told(fireball, what));
        }
    }

    private void sightings() {
        for (int fireball : fireballs()) {
            toldOf(fireball);
            ask("stream " + fireball + " 0", () -> net.stream(fireball, 0) ? 1 : 0);
            ask("fireballAnew " + fireball, () -> net.fireballAnew(fireball));
        }
        for (int night : NIGHTS) {
            ask("fireballs " + night, () -> net.fireballs(night));
            ask("flux " + night, () -> net.flux(night, night, 0));
        }
        ask("flux of all", () -> net.flux(0, 50, 200));
    }

    private void begun() {
        ask("end", () -> Scenes.endAtFireball(net));
        toldOf(5);
        for (int camera = 0; camera < Scenes.CAMERAS; camera++) {
            for (int night : NIGHTS) {
                int number = camera;
                ask("cloud " + camera + " " + night, () -> net.cloud(number, night));
            }
        }
    }

    private void clocks() {
        for (int i = 0; i <= 10; i++) {
            int camera = i;
            ask("clock " + i, () -> net.clock(camera, 40));
        }
    }

    private void fields() {
        for (int fireball : fireballs()) {
            for (int x = 25; x <= 43; x += 3) {
                for (int y = 34; y <= 48; y += 2) {
                    int cellX = x;
                    int cellY = y;
                    ask("chance " + fireball + " " + x + " " + y, () -> net.chance(fireball, cellX, cellY));
                }
            }
        }
    }

    /** How many more there may be of each, and which numbers they get. */
    private void countedUp() {
        askOften("camera", i -> net.camera(1, 1, 1));
        askOften("cloud", i -> net.cloud(2, 1000 + i));
        askOften("end", i -> {
            int ended = net.end(1, 1, 1, 1);
            net.begin(0, 3000, 1, 1, 1);
            return ended;
        });
        askOften("wind", i -> {
            net.wind(3500 + i, 0, 0);
            return 0;
        });
        askOften("walk", i -> net.walk(0, 0, 99, 1));
        askOften("find", i -> net.find(1, 1, 1, 1, 1));
    }

    private void askOften(String call, NumberedQuestion question) {
        for (int i = 0; i <= 60; i++) {
            int number = i;
            if (!ask(call + " " + i, () -> question.answer(number))) {
                return;
            }
        }
    }

    private void stones() {
        for (int i = 0; i <= 40; i++) {
            int stone = i;
            for (int what = 0; what < 8; what++) {
                int asked = what;
                if (!ask("stone " + i + " " + what, () -> net.stone(stone, asked))) {
                    return;
                }
            }
        }
    }

    private void kinds() {
        for (int i = 0; i <= 40; i++) {
            int stone = i;
            if (!ask("whole " + i, () -> net.whole(stone))) {
                return;
            }
            ask("fall " + i, () -> net.fall(stone));
            ask("classOf " + i, () -> net.classOf(stone, 5));
            ask("pair " + i, () -> net.pair(0, stone, 5) ? 1 : 0);
        }
    }

    /** What a stone got ahead of its name shows when it has one. */
    private void named() {
        for (int i = 0; i <= 40; i++) {
            int stone = i;
            ask("name " + i, () -> net.name(stone, 3));
            if (!ask("stone " + i + " 6", () -> net.stone(stone, 6))) {
                return;
            }
            ask("doubt " + i, () -> net.doubt(stone, true) ? 1 : 0);
            ask("stone " + i + " 5", () -> net.stone(stone, 5));
        }
    }

    private void rules() {
        for (int iron = 0; iron <= 1000; iron += 100) {
            int told = iron;
            ask("minerals " + iron, () -> {
                net.minerals(0, told, 0, 0);
                return 0;
            });
            for (int i = 0; i < 10; i++) {
                int year = i;
                ask("classOf " + iron + " " + i, () -> net.classOf(0, year));
            }
        }
    }

    private void irons() {
        for (int bound : BOUNDS) {
            ask("rule " + bound, () -> {
                net.rule(9, bound, bound);
                return 0;
            });
            for (int i = 0; i < Scenes.STONES; i++) {
                int stone = i;
                ask("classOf " + i + " " + bound, () -> net.classOf(stone, 9));
            }
        }
    }

    private void lawsAndNames() {
        for (int i = 0; i < 10; i++) {
            int place = i;
            if (ask("find " + i, () -> net.find(5, 5, 5, 5, 5))) {
                int named = lastStone();
                ask("name " + i, () -> net.name(named, place));
            }
        }
        for (int x : SIDES) {
            for (int y : SIDES) {
                if (ask("find " + x + " " + y, () -> net.find(x, y, 5, 5, 5))) {
                    int found = lastStone();
                    ask("owner " + x + " " + y, () -> net.stone(found, 1));
                }
            }
        }
        for (int i = 0; i < 4; i++) {
            int land = i;
            ask("law " + i, () -> net.law(land, 0));
        }
    }

    private int lastStone() {
        String answer = answers.get(answers.size() - 1);
        return Integer.parseInt(answer.substring(answer.lastIndexOf(' ') + 1));
    }
}

/** Nets with something of everything, and those that are full of one thing: the same each time that they are made. */
final class Scenes {
    /** How many there are of each in rich(), with a sighting that is begun besides. */
    static final int CAMERAS = 4;
    static final int CLOUDS = 3;
    static final int SIGHTINGS = 8;
    static final int WINDS = 3;
    static final int WALKS = 4;
    static final int STONES = 7;

    /** The fireballs of rich(): two of the night 10, and one of the night 20. */
    static final int[] FIREBALLS = {0, 3, 5};
    /** A sighting of rich() that is of a fireball, but not its lowest, and one that is of none. */
    static final int NOT_LOWEST = 1;
    static final int ALONE = 7;

    /** The sighting that is begun in rich() is of this camera and night. */
    static final int BEGUN_CAMERA = 1;
    static final int BEGUN_NIGHT = 20;
    /** The clouds over the camera 3, which has no sightings, are of this night and the next one. */
    static final int CLOUDY_CAMERA = 3;
    static final int CLOUDY_NIGHT = 10;

    /** Stones of rich(): as it was found, a piece without own name, without minerals, lent and stolen ones. */
    static final int FOUND = 0;
    static final int PIECE = 1;
    static final int NAMED_PIECE = 2;
    static final int OF_LAND = 3;
    static final int LENT = 4;
    static final int STOLEN = 5;
    static final int NEAR = 6;

    private static final int[][] PLACES = {{0, 0}, {60, 0}, {0, 60}, {99, 99}};
    private static final int[] WRONG = {0, 3, -2, 0};

    private Scenes() {
    }

    static FireNet rich() {
        FireNet net = new FireNet();
        for (int i = 0; i < CAMERAS; i++) {
            net.camera(PLACES[i][0], PLACES[i][1], WRONG[i]);
        }
        net.cloud(CLOUDY_CAMERA, CLOUDY_NIGHT);
        net.cloud(CLOUDY_CAMERA, CLOUDY_NIGHT + 1);
        net.cloud(2, 12);
        addSightings(net);
        addField(net);
        addStones(net);
        beginAtFireball(net);
        return net;
    }

    /** Begins a sighting that joins the fireball 5, if it ends as endAtFireball() does. */
    static void beginAtFireball(FireNet net) {
        net.begin(BEGUN_CAMERA, BEGUN_NIGHT, 5004 + WRONG[BEGUN_CAMERA], 4, 700);
    }

    static int endAtFireball(FireNet net) {
        return net.end(-30, 30, -27, 42);
    }

    private static void see(FireNet net, int camera, int night, int second, int light, int... places) {
        net.begin(camera, night, second + WRONG[camera], 2, light);
        int x = PLACES[camera][0];
        int y = PLACES[camera][1];
        net.end(places[0] - x, places[1] - y, places[2] - x, places[3] - y);
    }

    private static void addSightings(FireNet net) {
        see(net, 0, 10, 1000, 100, 30, 30, 30, 40);
        see(net, 1, 10, 1000, 300, 31, 30, 30, 41);
        see(net, 2, 10, 1004, 200, 30, 31, 30, 40);
        see(net, 0, 10, 5000, 60, 31, 29, 36, 44);
        see(net, 1, 10, 5005, 50, 31, 29, 36, 44);
        see(net, 0, 20, 5000, 400, 30, 30, 32, 42);
        see(net, 1, 20, 5000, 500, 30, 30, 33, 42);
        see(net, 2, 30, 5000, 100, 30, 30, 30, 40);
    }

    private static void addField(FireNet net) {
        net.wind(10, 2, -3);
        net.wind(20, -1, 1);
        net.wind(400, 5, 5);
        net.walk(0, 31, 39, 50);
        net.walk(0, 31, 39, 33);
        net.walk(5, 32, 42, 20);
        net.walk(3, 37, 43, 100);
    }

    private static void addStones(FireNet net) {
        net.rule(2, 500, 200);
        net.rule(5, 400, 100);
        net.law(1, 1);
        net.law(2, 2);
        net.find(31, 40, 11, 1000, 2);
        net.minerals(0, 450, 3, 4);
        net.cut(0, 300, 20);
        net.cut(1, 100, 5);
        net.find(70, 20, 400, 50, 3);
        net.find(20, 70, 800, 60, 4);
        net.find(90, 90, 1200, 70, 5);
        net.find(35, 43, 21, 80, 1);
        net.minerals(6, 420, 3, 4);
        net.lend(LENT, 2);
        net.steal(STOLEN);
        net.name(0, 4);
        net.name(2, 4);
        net.name(4, 9);
        net.doubt(0, true);
    }

    // ---- as many as there may be

    static FireNet tenCameras() {
        FireNet net = rich();
        for (int i = CAMERAS; i < 10; i++) {
            net.camera(i, i, i);
        }
        return net;
    }

    static FireNet fiftyClouds() {
        FireNet net = rich();
        for (int i = CLOUDS; i < 50; i++) {
            net.cloud(i % CAMERAS, 2000 + i);
        }
        return net;
    }

    /** 60 sightings, and one more that is begun. */
    static FireNet sixtySightings() {
        FireNet net = rich();
        endAtFireball(net);
        for (int i = SIGHTINGS + 1; i < 60; i++) {
            net.begin(0, 2000 + i, 1000, 2, 100);
            net.end(1, 1, 1, 2);
        }
        beginAtFireball(net);
        return net;
    }

    static FireNet fiftyWinds() {
        FireNet net = rich();
        for (int i = WINDS; i < 50; i++) {
            net.wind(2000 + i, 1, 1);
        }
        return net;
    }

    static FireNet sixtyWalks() {
        FireNet net = rich();
        for (int i = WALKS; i < 60; i++) {
            net.walk(0, i, 99, 1);
        }
        return net;
    }

    static FireNet fortyStones() {
        FireNet net = rich();
        for (int i = STONES; i < 40; i++) {
            net.find(i, i, i, 1 + i, i % 6);
        }
        return net;
    }
}

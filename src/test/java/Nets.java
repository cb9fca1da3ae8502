/** Nets that several tests begin with, all with clocks that are right. */
final class Nets {
    /** Where the cameras of threeCameras() stand. */
    static final int[][] PLACES = {{0, 0}, {60, 0}, {0, 60}};

    private Nets() {
    }

    static FireNet threeCameras() {
        FireNet net = new FireNet();
        for (int[] place : PLACES) {
            net.camera(place[0], place[1], 0);
        }
        return net;
    }

    /** A sighting by a camera of threeCameras(), from one place to another one, each in whole kilometres. */
    static int see(FireNet net, int camera, int night, int second, int length, int light, int[] from, int[] to) {
        int[] at = PLACES[camera];
        net.begin(camera, night, second, length, light);
        return net.end(from[0] - at[0], from[1] - at[1], to[0] - at[0], to[1] - at[1]);
    }

    /** A fireball by the cameras 0 and 1 of threeCameras(), two seconds long, of the light 100. */
    static int fireball(FireNet net, int night, int second, int[] from, int[] to) {
        int number = see(net, 0, night, second, 2, 100, from, to);
        see(net, 1, night, second, 2, 100, from, to);
        return number;
    }

    static int[] at(int x, int y) {
        return new int[] {x, y};
    }

    /** Three cameras, and the fireball 0 of the night 10, from 30, 30 to 30, 40. */
    static FireNet oneFireball() {
        FireNet net = threeCameras();
        fireball(net, 10, 1000, at(30, 30), at(30, 40));
        return net;
    }
}

import java.math.BigInteger;
import java.util.ArrayList;
import java.util.Arrays;
import java.util.HashMap;
import java.util.HashSet;
import java.util.List;
import java.util.Map;
import java.util.Set;
import java.util.TreeMap;
import java.util.TreeSet;

/** FireNet anew, in the plainest form: it keeps what was told, and works every answer out from that. */
final class Model {
    private final List<int[]> cameras = new ArrayList<>();
    private final Set<List<Integer>> clouds = new HashSet<>();
    /** Camera, night, second, length, light, beginX, beginY, endX, endY. */
    private final List<int[]> sightings = new ArrayList<>();
    private int[] begun = null;
    private final Map<Integer, int[]> winds = new HashMap<>();
    private final List<int[]> walks = new ArrayList<>();
    private final List<Piece> stones = new ArrayList<>();
    private final TreeMap<Integer, int[]> rules = new TreeMap<>();
    private final int[] laws = new int[4];
    private final int[] named = new int[10];

    private static final class Piece {
        int x, y, night, grams, lost, owner;
        int where = 0, laboratory = -1, origin = -1;
        int[] minerals = null;
        int[] name = null;
        boolean doubtful = false;
    }

    // ---- exceptions, in the order of the promises

    private static void exists(int number, int count) {
        if (number < 0 || number >= count) {
            throw new IndexOutOfBoundsException();
        }
    }

    /** Triples of a value, the least and the most that it may be. */
    private static void within(int... triples) {
        for (int i = 0; i < triples.length; i += 3) {
            if (triples[i] < triples[i + 1] || triples[i] > triples[i + 2]) {
                throw new IllegalArgumentException();
            }
        }
    }

    private static void can(boolean is) {
        if (!is) {
            throw new IllegalStateException();
        }
    }

    // ---- cameras, sightings

    int camera(int x, int y, int wrong) {
        within(x, 0, 99, y, 0, 99, wrong, -99, 99);
        can(cameras.size() < 10);
        cameras.add(new int[] {x, y, wrong});
        return cameras.size() - 1;
    }

    int clock(int camera, int wrong) {
        exists(camera, cameras.size());
        within(wrong, -99, 99);
        int before = cameras.get(camera)[2];
        cameras.get(camera)[2] = wrong;
        return before;
    }

    int cloud(int camera, int night) {
        exists(camera, cameras.size());
        within(night, 0, 3649);
        can(!clouds.contains(List.of(camera, night)));
        can(sightings.stream().noneMatch(s -> s[0] == camera && s[1] == night));
        can(clouds.size() < 50);
        clouds.add(List.of(camera, night));
        return (int) clouds.stream().filter(c -> c.get(0) == camera).count();
    }

    void begin(int camera, int night, int second, int length, int light) {
        exists(camera, cameras.size());
        within(night, 0, 3649, second, 0, 86399, length, 1, 60, light, 1, 1000);
        can(!clouds.contains(List.of(camera, night)));
        begun = new int[] {camera, night, second, length, light, 0, 0, 0, 0};
    }

    int end(int beginX, int beginY, int endX, int endY) {
        within(beginX, -100, 100, beginY, -100, 100, endX, -100, 100, endY, -100, 100);
        within((beginX | beginY) == 0 || (endX | endY) == 0 ? 1 : 0, 0, 0);
        can(begun != null && !clouds.contains(List.of(begun[0], begun[1])) && sightings.size() < 60);
        begun[5] = beginX;
        begun[6] = beginY;
        begun[7] = endX;
        begun[8] = endY;
        sightings.add(begun);
        begun = null;
        return sightings.size() - 1;
    }

    /** Where the rays of two sightings cross, those of the columns at and the next one; null if nowhere. */
    private long[] crossing(int[] one, int[] other, int at) {
        int[] from = cameras.get(one[0]);
        int[] otherFrom = cameras.get(other[0]);
        BigInteger ux = BigInteger.valueOf(one[at]);
        BigInteger uy = BigInteger.valueOf(one[at + 1]);
        BigInteger vx = BigInteger.valueOf(other[at]);
        BigInteger vy = BigInteger.valueOf(other[at + 1]);
        BigInteger wx = BigInteger.valueOf(otherFrom[0] - from[0]);
        BigInteger wy = BigInteger.valueOf(otherFrom[1] - from[1]);
        // from + t u = otherFrom + s v, by the rule of Cramer with the columns u and -v.
        BigInteger base = vx.multiply(uy).subtract(ux.multiply(vy));
        BigInteger t = vx.multiply(wy).subtract(wx.multiply(vy));
        BigInteger s = ux.multiply(wy).subtract(wx.multiply(uy));
        if (base.signum() == 0 || t.signum() * base.signum() <= 0 || s.signum() * base.signum() <= 0) {
            return null;
        }
        return new long[] {hundredths(from[0], t, ux, base), hundredths(from[1], t, uy, base)};
    }

    private static long hundredths(int from, BigInteger times, BigInteger step, BigInteger base) {
        BigInteger[] parts = times.multiply(step).multiply(BigInteger.valueOf(100)).divideAndRemainder(base);
        boolean below = parts[1].signum() * base.signum() < 0;
        return 100L * from + parts[0].longValueExact() - (below ? 1 : 0);
    }

    private boolean join(int i, int j) {
        int[] one = sightings.get(i);
        int[] other = sightings.get(j);
        int seconds = one[2] - cameras.get(one[0])[2] - other[2] + cameras.get(other[0])[2];
        return one[0] != other[0] && one[1] == other[1] && one[3] <= 30 && other[3] <= 30 && one[4] >= 50
                && other[4] >= 50 && seconds >= -5 && seconds <= 5 && crossing(one, other, 5) != null
                && crossing(one, other, 7) != null;
    }

    /** All fireballs by their numbers, each with its sightings. */
    TreeMap<Integer, TreeSet<Integer>> allFireballs() {
        int count = sightings.size();
        int[] leader = new int[count];
        for (int i = 0; i < count; i++) {
            leader[i] = i;
            for (int j = 0; j < i; j++) {
                if (leader[j] != leader[i] && join(i, j)) {
                    int low = Math.min(leader[i], leader[j]);
                    int high = Math.max(leader[i], leader[j]);
                    for (int k = 0; k <= i; k++) {
                        leader[k] = leader[k] == high ? low : leader[k];
                    }
                }
            }
        }
        TreeMap<Integer, TreeSet<Integer>> groups = new TreeMap<>();
        for (int i = 0; i < count; i++) {
            groups.computeIfAbsent(leader[i], k -> new TreeSet<>()).add(i);
        }
        groups.values().removeIf(g -> g.size() < 2);
        return groups;
    }

    int fireball(int sighting) {
        exists(sighting, sightings.size());
        for (Map.Entry<Integer, TreeSet<Integer>> e : allFireballs().entrySet()) {
            if (e.getValue().contains(sighting)) {
                return e.getKey();
            }
        }
        return -1;
    }

    int fireballs(int night) {
        within(night, 0, 3649);
        return (int) allFireballs().keySet().stream().filter(f -> sightings.get(f)[1] == night).count();
    }

    private void existsFireball(int fireball) {
        if (!allFireballs().containsKey(fireball)) {
            throw new IndexOutOfBoundsException();
        }
    }

    /** How many sightings, beginning, end, speed, both masses. */
    private long[] facts(int fireball) {
        long[] sums = new long[4];
        long pairs = 0;
        long lengths = 0;
        long light = 0;
        long greatest = 0;
        TreeSet<Integer> group = allFireballs().get(fireball);
        for (int i : group) {
            int[] one = sightings.get(i);
            lengths += one[3];
            light += one[3] * one[4];
            greatest = Math.max(greatest, one[4]);
            for (int j : group.headSet(i)) {
                if (join(i, j)) {
                    pairs++;
                    long[] begin = crossing(sightings.get(j), one, 5);
                    long[] end = crossing(sightings.get(j), one, 7);
                    long[] all = {begin[0], begin[1], end[0], end[1]};
                    Arrays.setAll(sums, k -> sums[k] + all[k]);
                }
            }
        }
        long[] facts = new long[8];
        facts[0] = group.size();
        for (int k = 0; k < 4; k++) {
            facts[k + 1] = Math.floorDiv(sums[k], pairs);
        }
        BigInteger x = BigInteger.valueOf(facts[3] - facts[1]);
        BigInteger y = BigInteger.valueOf(facts[4] - facts[2]);
        facts[5] = 10 * x.multiply(x).add(y.multiply(y)).sqrt().longValueExact() * facts[0] / lengths;
        facts[6] = light / facts[0];
        facts[7] = 1000 * greatest / (facts[5] + 1);
        return facts;
    }

    long told(int fireball, int what) {
        existsFireball(fireball);
        within(what, 0, 7);
        return facts(fireball)[what];
    }

    boolean stream(int fireball, int other) {
        existsFireball(fireball);
        existsFireball(other);
        long[] one = facts(fireball);
        long[] two = facts(other);
        long difference = Math.abs(one[5] - two[5]);
        if (difference > Math.max(one[5], two[5]) / 10) {
            return false;
        }
        BigInteger x1 = BigInteger.valueOf(one[3] - one[1]);
        BigInteger y1 = BigInteger.valueOf(one[4] - one[2]);
        BigInteger x2 = BigInteger.valueOf(two[3] - two[1]);
        BigInteger y2 = BigInteger.valueOf(two[4] - two[2]);
        BigInteger across = x1.multiply(y2).subtract(y1.multiply(x2)).abs().multiply(BigInteger.TEN);
        BigInteger along = x1.multiply(x2).add(y1.multiply(y2));
        boolean flies = (x1.signum() != 0 || y1.signum() != 0) && (x2.signum() != 0 || y2.signum() != 0);
        return flies && along.signum() > 0 && across.compareTo(along) <= 0;
    }

    int flux(int from, int to, int mass) {
        within(from, 0, 3649, to, from, 3649, mass, 0, 100000);
        int seen = 0;
        for (int f : allFireballs().keySet()) {
            int night = sightings.get(f)[1];
            seen += night >= from && night <= to && facts(f)[6] >= mass ? 1 : 0;
        }
        int clear = 0;
        for (int c = 0; c < cameras.size(); c++) {
            for (int night = from; night <= to; night++) {
                clear += clouds.contains(List.of(c, night)) ? 0 : 1;
            }
        }
        return clear == 0 ? 0 : seen * 1000 / clear;
    }

    // ---- fields

    void wind(int night, int x, int y) {
        within(night, 0, 3649, x, -20, 20, y, -20, 20);
        can(winds.containsKey(night) || winds.size() < 50);
        winds.put(night, new int[] {x, y});
    }

    long walk(int fireball, int x, int y, int skill) {
        existsFireball(fireball);
        within(x, 0, 99, y, 0, 99, skill, 1, 100);
        can(walks.size() < 60);
        walks.add(new int[] {fireball, x, y, skill});
        return chanceOf(fireball, x, y);
    }

    long chance(int fireball, int x, int y) {
        existsFireball(fireball);
        within(x, 0, 99, y, 0, 99);
        return chanceOf(fireball, x, y);
    }

    private long chanceOf(int fireball, int x, int y) {
        long[][] weights = weights(fireball);
        long sum = 0;
        for (long[] column : weights) {
            for (long weight : column) {
                sum += weight;
            }
        }
        return sum == 0 ? 0 : weights[x][y] * 1000000 / sum;
    }

    private long[][] weights(int fireball) {
        long[] facts = facts(fireball);
        int[] wind = winds.getOrDefault(sightings.get(fireball)[1], new int[2]);
        long[][] weights = new long[100][100];
        for (int size = 1; size <= 5; size++) {
            long middleX = Math.floorDiv(facts[3] + wind[0] * 20 * (6 - size), 100L);
            long middleY = Math.floorDiv(facts[4] + wind[1] * 20 * (6 - size), 100L);
            for (int x = 0; x < 100; x++) {
                for (int y = 0; y < 100; y++) {
                    long away = Math.max(Math.abs(x - middleX), Math.abs(y - middleY));
                    weights[x][y] += away < 8 ? 1000000 * (8 - away) : 0;
                }
            }
        }
        for (int[] walk : walks) {
            if (walk[0] == fireball) {
                weights[walk[1]][walk[2]] = weights[walk[1]][walk[2]] * (100 - walk[3]) / 100;
            }
        }
        return weights;
    }

    // ---- stones

    private int landAt(int x, int y) {
        if (y < 50) {
            return x < 50 ? 0 : 1;
        }
        return x < 50 ? 2 : 3;
    }

    int find(int x, int y, int night, int grams, int finder) {
        within(x, 0, 99, y, 0, 99, night, 0, 3649, grams, 1, 1000000, finder, 0, 5);
        can(stones.size() < 40);
        Piece found = new Piece();
        found.x = x;
        found.y = y;
        found.night = night;
        found.grams = grams;
        found.owner = laws[landAt(x, y)] == 1 ? 10 + landAt(x, y) : finder;
        stones.add(found);
        return stones.size() - 1;
    }

    int fall(int stone) {
        exists(stone, stones.size());
        Piece piece = stones.get(stone);
        int best = -1;
        long greatest = 0;
        for (int f : allFireballs().keySet()) {
            if (sightings.get(f)[1] <= piece.night) {
                long chance = chanceOf(f, piece.x, piece.y);
                best = chance > greatest ? f : best;
                greatest = Math.max(chance, greatest);
            }
        }
        return best;
    }

    void minerals(int stone, int iron, int texture, int shock) {
        exists(stone, stones.size());
        within(iron, 0, 1000, texture, 0, 9, shock, 0, 9);
        stones.get(stone).minerals = new int[] {iron, texture, shock};
    }

    void rule(int year, int first, int second) {
        within(year, 0, 9, first, 0, 1000, second, 0, first);
        rules.put(year, new int[] {first, second});
    }

    int classOf(int stone, int year) {
        exists(stone, stones.size());
        within(year, 0, 9);
        int[] minerals = stones.get(stone).minerals;
        Map.Entry<Integer, int[]> rule = rules.floorEntry(year);
        if (minerals == null || rule == null) {
            return 0;
        }
        int[] bounds = rule.getValue();
        int group = minerals[0] >= bounds[0] ? 100 : minerals[0] >= bounds[1] ? 200 : 300;
        return group + 10 * minerals[1] + minerals[2];
    }

    boolean pair(int stone, int other, int year) {
        exists(stone, stones.size());
        exists(other, stones.size());
        within(year, 0, 9, stone == other ? 1 : 0, 0, 0);
        Piece one = stones.get(stone);
        Piece two = stones.get(other);
        boolean near = Math.max(Math.abs(one.x - two.x), Math.abs(one.y - two.y)) <= 10;
        boolean like = classOf(stone, year) == classOf(other, year) && classOf(stone, year) != 0;
        int fall = fall(stone);
        int otherFall = fall(other);
        return near && like && (fall == otherFall || fall == -1 || otherFall == -1);
    }

    int cut(int stone, int grams, int lost) {
        exists(stone, stones.size());
        within(grams, 1, 1000000, lost, 0, 1000);
        Piece from = stones.get(stone);
        can(from.where != 2 && from.grams > grams + lost && stones.size() < 40);
        Piece piece = new Piece();
        piece.x = from.x;
        piece.y = from.y;
        piece.night = from.night;
        piece.grams = grams;
        piece.owner = from.owner;
        piece.minerals = from.minerals;
        piece.origin = stone;
        from.grams -= grams + lost;
        from.lost += lost;
        stones.add(piece);
        return stones.size() - 1;
    }

    void lend(int stone, int laboratory) {
        exists(stone, stones.size());
        within(laboratory, -1, 3);
        Piece piece = stones.get(stone);
        can(laboratory == -1 ? piece.where != 0 : piece.where == 0);
        piece.where = laboratory == -1 ? 0 : 1;
        piece.laboratory = laboratory;
    }

    void steal(int stone) {
        exists(stone, stones.size());
        can(stones.get(stone).where != 2);
        stones.get(stone).where = 2;
        stones.get(stone).laboratory = -1;
    }

    int law(int land, int law) {
        within(land, 0, 3, law, 0, 2);
        int before = laws[land];
        laws[land] = law;
        return before;
    }

    int give(int stone, int person) {
        exists(stone, stones.size());
        within(person, 0, 5);
        Piece piece = stones.get(stone);
        int land = landAt(piece.x, piece.y);
        can(piece.where == 0 && piece.owner != person && (laws[land] != 2 || person % 4 == land));
        int before = piece.owner;
        piece.owner = person;
        return before;
    }

    int name(int stone, int place) {
        exists(stone, stones.size());
        within(place, 0, 9);
        can(stones.get(stone).name == null);
        stones.get(stone).name = new int[] {place, ++named[place]};
        return named[place];
    }

    boolean doubt(int stone, boolean is) {
        exists(stone, stones.size());
        can(stones.get(stone).name != null);
        boolean was = stones.get(stone).doubtful;
        stones.get(stone).doubtful = is;
        return was;
    }

    private Piece namesake(int stone) {
        Piece piece = stones.get(stone);
        return piece.name != null || piece.origin == -1 ? piece : namesake(piece.origin);
    }

    int stone(int stone, int what) {
        exists(stone, stones.size());
        within(what, 0, 7);
        Piece piece = stones.get(stone);
        Piece bearer = namesake(stone);
        int name = bearer.name == null ? -1 : 100 * bearer.name[0] + bearer.name[1];
        int[] facts = {piece.grams, piece.owner, piece.where, piece.laboratory, piece.origin, name,
                bearer.doubtful ? 1 : 0, piece.lost};
        return facts[what];
    }

    int whole(int stone) {
        exists(stone, stones.size());
        int sum = stones.get(stone).grams + stones.get(stone).lost;
        for (int i = stone + 1; i < stones.size(); i++) {
            sum += stones.get(i).origin == stone ? whole(i) : 0;
        }
        return sum;
    }

    // ---- what the makers of calls look at

    int[] cameraAt(int number) {
        return cameras.get(number);
    }

    int cameraCount() {
        return cameras.size();
    }

    int sightingCount() {
        return sightings.size();
    }

    int nightOf(int fireball) {
        return sightings.get(fireball)[1];
    }

    int stoneCount() {
        return stones.size();
    }

    /** The cell in which the end of a fireball is. */
    int[] endCell(int fireball) {
        long[] facts = facts(fireball);
        return new int[] {(int) Math.floorDiv(facts[3], 100L), (int) Math.floorDiv(facts[4], 100L)};
    }
}

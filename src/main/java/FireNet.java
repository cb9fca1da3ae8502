import java.util.ArrayList;
import java.util.List;

/** A net of cameras that watches for stones that fall, and the stones that are found of them. */
public final class FireNet {
    public static final int NONE = -1;
    public static final int KEPT = 0, LENT = 1, STOLEN = 2;

    private static final int MOST_CAMERAS = 10;
    private static final int MOST_CLOUDS = 50;
    private static final int MOST_SIGHTINGS = 60;
    private static final int MOST_WINDS = 50;
    private static final int MOST_WALKS = 60;
    private static final int MOST_STONES = 40;

    private static final int LAST_CELL = 99;
    private static final int LAST_NIGHT = 3649;
    private static final int LAST_SECOND = 86399;
    private static final int LAST_YEAR = 9;
    private static final int LAST_PLACE = 9;
    private static final int LAST_PERSON = 5;
    private static final int LAST_LABORATORY = 3;
    private static final int LAST_LAND = 3;
    private static final int LANDS = 4;
    private static final int LAND_OWNERS = 10;
    private static final int MOST_WRONG = 99;
    private static final int MOST_GRAMS = 1000000;
    private static final int MILLION = 1000000;

    private static final int LAND_OWNS = 1;
    private static final int MAY_NOT_LEAVE = 2;

    private final List<Camera> cameras = new ArrayList<>();
    private final List<Cloud> clouds = new ArrayList<>();
    private final List<Sighting> sightings = new ArrayList<>();
    private Sighting begun = null;

    // One row for each number that a fireball can have; rows without sightings are no fireballs.
    private final List<Fireball> rows = new ArrayList<>();
    private final Crossing begins = new Crossing();
    private final Crossing ends = new Crossing();

    private final List<Wind> winds = new ArrayList<>();
    private final List<Walk> walks = new ArrayList<>();
    private final Field field = new Field();

    private final List<Stone> stones = new ArrayList<>();
    private final Rule[] rules = new Rule[LAST_YEAR + 1];
    private final int[] laws = new int[LANDS];
    private final int[] namesOfPlaces = new int[LAST_PLACE + 1];

    public FireNet() {
        for (int i = 0; i < MOST_SIGHTINGS; i++) {
            rows.add(new Fireball());
        }
    }

    // ---- cameras, sightings

    public int camera(int x, int y, int wrong) throws IllegalArgumentException, IllegalStateException {
        requireCell(x, y);
        requireRange(wrong, -MOST_WRONG, MOST_WRONG);
        if (cameras.size() >= MOST_CAMERAS) {
            throw new IllegalStateException("there are as many cameras as there may be");
        }
        cameras.add(new Camera(x, y, wrong));
        return cameras.size() - 1;
    }

    public int clock(int camera, int wrong) throws IndexOutOfBoundsException, IllegalArgumentException {
        Camera meant = existingCamera(camera);
        requireRange(wrong, -MOST_WRONG, MOST_WRONG);
        int before = meant.wrong;
        meant.wrong = wrong;
        gatherFireballs();
        return before;
    }

    public int cloud(int camera, int night)
            throws IndexOutOfBoundsException, IllegalArgumentException, IllegalStateException {
        Camera meant = existingCamera(camera);
        requireNight(night);
        if (isCloudy(meant, night)) {
            throw new IllegalStateException("these clouds were told");
        }
        if (hasSighting(meant, night)) {
            throw new IllegalStateException("the camera has a sighting in that night");
        }
        if (clouds.size() >= MOST_CLOUDS) {
            throw new IllegalStateException("there are as many clouds as there may be");
        }
        clouds.add(new Cloud(meant, night));
        return cloudyNights(meant, 0, LAST_NIGHT);
    }

    public void begin(int camera, int night, int second, int length, int light)
            throws IndexOutOfBoundsException, IllegalArgumentException, IllegalStateException {
        Camera meant = existingCamera(camera);
        requireNight(night);
        requireRange(second, 0, LAST_SECOND);
        requireRange(length, 1, 60);
        requireRange(light, 1, 1000);
        if (isCloudy(meant, night)) {
            throw new IllegalStateException("there were clouds over the camera in that night");
        }
        begun = new Sighting(meant, night, second, length, light);
    }

    public int end(int beginX, int beginY, int endX, int endY)
            throws IllegalArgumentException, IllegalStateException {
        requireDirection(beginX, beginY);
        requireDirection(endX, endY);
        Sighting ended = begun;
        if (ended == null) {
            throw new IllegalStateException("no sighting was begun");
        }
        if (isCloudy(ended.camera, ended.night)) {
            throw new IllegalStateException("clouds were told since the sighting was begun");
        }
        if (sightings.size() >= MOST_SIGHTINGS) {
            throw new IllegalStateException("there are as many sightings as there may be");
        }
        ended.beginX = beginX;
        ended.beginY = beginY;
        ended.endX = endX;
        ended.endY = endY;
        sightings.add(ended);
        begun = null;
        gatherFireballs();
        return sightings.size() - 1;
    }

    public int fireball(int sighting) throws IndexOutOfBoundsException {
        return existingSighting(sighting).fireball;
    }

    public int fireballAnew(int sighting) throws IndexOutOfBoundsException {
        Sighting asked = existingSighting(sighting);
        if (asked.joined == 0) {
            return NONE;
        }
        for (int i = 0; i < sightings.size(); i++) {
            sightings.get(i).lowest = i;
        }
        // The lowest number goes on by one sighting a round at least, so rounds beyond their count are idle.
        boolean changed = true;
        for (int round = 0; changed && round < sightings.size(); round++) {
            changed = spreadLowest();
        }
        return asked.lowest;
    }

    public int fireballs(int night) throws IllegalArgumentException {
        requireNight(night);
        return countFireballs(night, night, 0);
    }

    public long told(int fireball, int what) throws IndexOutOfBoundsException, IllegalArgumentException {
        Fireball meant = existingFireball(fireball);
        requireRange(what, 0, 7);
        return meant.number(what);
    }

    public boolean stream(int fireball, int other) throws IndexOutOfBoundsException {
        Fireball one = existingFireball(fireball);
        Fireball another = existingFireball(other);
        return one.isAsFastAs(another) && one.fliesLike(another);
    }

    public int flux(int from, int to, int mass) throws IllegalArgumentException {
        requireNight(from);
        requireRange(to, from, LAST_NIGHT);
        requireRange(mass, 0, 100000);
        int clear = 0;
        for (int i = 0; i < cameras.size(); i++) {
            clear += to - from + 1 - cloudyNights(cameras.get(i), from, to);
        }
        if (clear <= 0) {
            return 0;
        }
        return countFireballs(from, to, mass) * 1000 / clear;
    }

    // ---- fields

    public void wind(int night, int x, int y) throws IllegalArgumentException, IllegalStateException {
        requireNight(night);
        requireRange(x, -20, 20);
        requireRange(y, -20, 20);
        Wind known = windOf(night);
        if (known == null) {
            if (winds.size() >= MOST_WINDS) {
                throw new IllegalStateException("winds of as many nights were told as may be");
            }
            known = new Wind(night);
            winds.add(known);
        }
        known.x = x;
        known.y = y;
    }

    public long walk(int fireball, int x, int y, int skill)
            throws IndexOutOfBoundsException, IllegalArgumentException, IllegalStateException {
        Fireball meant = existingFireball(fireball);
        requireCell(x, y);
        requireRange(skill, 1, 100);
        if (walks.size() >= MOST_WALKS) {
            throw new IllegalStateException("there were as many walks as there may be");
        }
        walks.add(new Walk(fireball, x, y, skill, !wasWalked(fireball, x, y)));
        return chanceIn(meant, fireball, x, y);
    }

    public long chance(int fireball, int x, int y) throws IndexOutOfBoundsException, IllegalArgumentException {
        Fireball meant = existingFireball(fireball);
        requireCell(x, y);
        return chanceIn(meant, fireball, x, y);
    }

    // ---- stones

    public int find(int x, int y, int night, int grams, int finder)
            throws IllegalArgumentException, IllegalStateException {
        requireCell(x, y);
        requireNight(night);
        requireRange(grams, 1, MOST_GRAMS);
        requireRange(finder, 0, LAST_PERSON);
        if (stones.size() >= MOST_STONES) {
            throw new IllegalStateException("there are as many stones as there may be");
        }
        int land = landOf(x, y);
        int owner = lawIn(land) == LAND_OWNS ? LAND_OWNERS + land : finder;
        Stone found = new Stone(stones.size(), x, y, night, grams, owner, null);
        stones.add(found);
        return found.number;
    }

    public int fall(int stone) throws IndexOutOfBoundsException {
        return fallOf(existingStone(stone));
    }

    public void minerals(int stone, int iron, int texture, int shock)
            throws IndexOutOfBoundsException, IllegalArgumentException {
        Stone meant = existingStone(stone);
        requireRange(iron, 0, 1000);
        requireRange(texture, 0, 9);
        requireRange(shock, 0, 9);
        meant.iron = iron;
        meant.texture = texture;
        meant.shock = shock;
    }

    public void rule(int year, int first, int second) throws IllegalArgumentException {
        requireRange(year, 0, LAST_YEAR);
        requireRange(first, 0, 1000);
        requireRange(second, 0, first);
        if (year >= 0 && year < rules.length) {
            rules[year] = new Rule(first, second);
        }
    }

    public int classOf(int stone, int year) throws IndexOutOfBoundsException, IllegalArgumentException {
        Stone meant = existingStone(stone);
        requireRange(year, 0, LAST_YEAR);
        return classIn(meant, year);
    }

    public boolean pair(int stone, int other, int year) throws IndexOutOfBoundsException, IllegalArgumentException {
        Stone one = existingStone(stone);
        Stone another = existingStone(other);
        requireRange(year, 0, LAST_YEAR);
        if (stone == other) {
            throw new IllegalArgumentException("both stones are the same");
        }
        int classOfOne = classIn(one, year);
        if (classOfOne == 0 || classOfOne != classIn(another, year) || !one.isNear(another)) {
            return false;
        }
        int fallOfOne = fallOf(one);
        int fallOfOther = fallOf(another);
        return fallOfOne == fallOfOther || fallOfOne == NONE || fallOfOther == NONE;
    }

    public int cut(int stone, int grams, int lost)
            throws IndexOutOfBoundsException, IllegalArgumentException, IllegalStateException {
        Stone meant = existingStone(stone);
        requireRange(grams, 1, MOST_GRAMS);
        requireRange(lost, 0, 1000);
        if (meant.where == STOLEN) {
            throw new IllegalStateException("the stone is stolen");
        }
        if (meant.grams - grams - lost < 1) {
            throw new IllegalStateException("the stone would not keep a gram");
        }
        if (stones.size() >= MOST_STONES) {
            throw new IllegalStateException("there are as many stones as there may be");
        }
        Stone piece = meant.pieceOf(stones.size(), grams);
        meant.grams -= grams + lost;
        meant.lost += lost;
        stones.add(piece);
        return piece.number;
    }

    public void lend(int stone, int laboratory)
            throws IndexOutOfBoundsException, IllegalArgumentException, IllegalStateException {
        Stone meant = existingStone(stone);
        requireRange(laboratory, NONE, LAST_LABORATORY);
        boolean kept = meant.where == KEPT;
        boolean takenBack = laboratory == NONE;
        if (kept == takenBack) {
            throw new IllegalStateException("only a kept stone is lent, and only another one is taken back");
        }
        meant.where = takenBack ? KEPT : LENT;
        meant.laboratory = laboratory;
    }

    public void steal(int stone) throws IndexOutOfBoundsException, IllegalStateException {
        Stone meant = existingStone(stone);
        if (meant.where == STOLEN) {
            throw new IllegalStateException("the stone is stolen");
        }
        meant.where = STOLEN;
        meant.laboratory = NONE;
    }

    public int law(int land, int law) throws IllegalArgumentException {
        requireRange(land, 0, LAST_LAND);
        requireRange(law, 0, 2);
        int before = lawIn(land);
        if (land >= 0 && land < laws.length) {
            laws[land] = law;
        }
        return before;
    }

    public int give(int stone, int person)
            throws IndexOutOfBoundsException, IllegalArgumentException, IllegalStateException {
        Stone meant = existingStone(stone);
        requireRange(person, 0, LAST_PERSON);
        if (meant.where != KEPT) {
            throw new IllegalStateException("the stone is not kept");
        }
        if (meant.owner == person) {
            throw new IllegalStateException("the person owns the stone");
        }
        int land = landOf(meant.x, meant.y);
        if (lawIn(land) == MAY_NOT_LEAVE && person % LANDS != land) {
            throw new IllegalStateException("the stone may not leave the land");
        }
        int before = meant.owner;
        meant.owner = person;
        return before;
    }

    public int name(int stone, int place)
            throws IndexOutOfBoundsException, IllegalArgumentException, IllegalStateException {
        Stone meant = existingStone(stone);
        requireRange(place, 0, LAST_PLACE);
        if (meant.hasOwnName()) {
            throw new IllegalStateException("the stone has an own name");
        }
        meant.place = place;
        meant.numberOfName = nextNumberOf(place);
        return meant.numberOfName;
    }

    public boolean doubt(int stone, boolean is) throws IndexOutOfBoundsException, IllegalStateException {
        Stone meant = existingStone(stone);
        if (!meant.hasOwnName()) {
            throw new IllegalStateException("the stone has no own name");
        }
        boolean was = meant.doubtful;
        meant.doubtful = is;
        return was;
    }

    public int stone(int stone, int what) throws IndexOutOfBoundsException, IllegalArgumentException {
        Stone meant = existingStone(stone);
        requireRange(what, 0, 7);
        return meant.number(what);
    }

    public int whole(int stone) throws IndexOutOfBoundsException {
        Stone meant = existingStone(stone);
        int grams = 0;
        for (int i = 0; i < stones.size(); i++) {
            Stone part = stones.get(i);
            if (part.isPartOf(meant)) {
                grams += part.grams + part.lost;
            }
        }
        return grams;
    }

    // ---- what arguments may be

    private static void requireRange(int value, int least, int most) {
        if (value < least || value > most) {
            throw new IllegalArgumentException("an argument is out of its range");
        }
    }

    private static void requireCell(int x, int y) {
        requireRange(x, 0, LAST_CELL);
        requireRange(y, 0, LAST_CELL);
    }

    private static void requireNight(int night) {
        requireRange(night, 0, LAST_NIGHT);
    }

    private static void requireDirection(int x, int y) {
        requireRange(x, -100, 100);
        requireRange(y, -100, 100);
        if (x == 0 && y == 0) {
            throw new IllegalArgumentException("both of a direction are 0");
        }
    }

    private Camera existingCamera(int number) {
        if (number < 0 || number >= cameras.size()) {
            throw new IndexOutOfBoundsException("there is no such camera");
        }
        return cameras.get(number);
    }

    private Sighting existingSighting(int number) {
        if (number < 0 || number >= sightings.size()) {
            throw new IndexOutOfBoundsException("there is no such sighting");
        }
        return sightings.get(number);
    }

    private Fireball existingFireball(int number) {
        if (number < 0 || number >= rows.size() || !rows.get(number).exists()) {
            throw new IndexOutOfBoundsException("there is no such fireball");
        }
        return rows.get(number);
    }

    private Stone existingStone(int number) {
        if (number < 0 || number >= stones.size()) {
            throw new IndexOutOfBoundsException("there is no such stone");
        }
        return stones.get(number);
    }

    // ---- clouds

    private int cloudyNights(Camera camera, int from, int to) {
        int nights = 0;
        for (int i = 0; i < clouds.size(); i++) {
            Cloud told = clouds.get(i);
            if (told.camera == camera && told.night >= from && told.night <= to) {
                nights++;
            }
        }
        return nights;
    }

    private boolean isCloudy(Camera camera, int night) {
        return cloudyNights(camera, night, night) > 0;
    }

    private boolean hasSighting(Camera camera, int night) {
        for (int i = 0; i < sightings.size(); i++) {
            Sighting seen = sightings.get(i);
            if (seen.camera == camera && seen.night == night) {
                return true;
            }
        }
        return false;
    }

    // ---- sightings that join

    // Fireballs are gathered when sightings or clocks change, so that asking for them costs little.
    private void gatherFireballs() {
        for (int i = 0; i < rows.size(); i++) {
            rows.get(i).clear();
        }
        joinSightings();
        for (int i = 0; i < sightings.size(); i++) {
            Sighting lowest = sightings.get(i);
            if (lowest.joined != 0 && lowest.fireball == NONE && i < rows.size()) {
                gatherInto(rows.get(i), i);
            }
        }
    }

    private void joinSightings() {
        for (int i = 0; i < sightings.size(); i++) {
            Sighting one = sightings.get(i);
            one.joined = 0;
            one.fireball = NONE;
            for (int j = 0; j < i; j++) {
                Sighting other = sightings.get(j);
                if (doJoin(one, other)) {
                    one.joined |= 1L << j;
                    other.joined |= 1L << i;
                }
            }
        }
    }

    private boolean doJoin(Sighting one, Sighting other) {
        return one.mayJoin(other) && begins.isOfBegins(one, other) && ends.isOfEnds(one, other);
    }

    private void gatherInto(Fireball row, int number) {
        long group = groupOf(number);
        for (int i = 0; i < sightings.size(); i++) {
            if (holds(group, i)) {
                Sighting one = sightings.get(i);
                one.fireball = number;
                row.add(one);
                addPlaces(row, one, i);
            }
        }
        row.settle();
    }

    // Each pair is added once: by its later sighting.
    private void addPlaces(Fireball row, Sighting one, int number) {
        for (int j = 0; j < number && j < sightings.size(); j++) {
            Sighting other = sightings.get(j);
            if (holds(one.joined, j) && begins.isOfBegins(one, other) && ends.isOfEnds(one, other)) {
                row.addPair(begins, ends);
            }
        }
    }

    private long groupOf(int number) {
        long group = 1L << number;
        boolean grown = true;
        for (int round = 0; grown && round < sightings.size(); round++) {
            long before = group;
            for (int i = 0; i < sightings.size(); i++) {
                if (holds(group, i)) {
                    group |= sightings.get(i).joined;
                }
            }
            grown = group != before;
        }
        return group;
    }

    private static boolean holds(long group, int number) {
        return (group >> number & 1) != 0;
    }

    private boolean spreadLowest() {
        boolean changed = false;
        for (int i = 0; i < sightings.size(); i++) {
            Sighting one = sightings.get(i);
            for (int j = 0; j < sightings.size(); j++) {
                Sighting other = sightings.get(j);
                if (holds(one.joined, j) && other.lowest < one.lowest) {
                    one.lowest = other.lowest;
                    changed = true;
                }
            }
        }
        return changed;
    }

    private int countFireballs(int from, int to, int mass) {
        int count = 0;
        for (int i = 0; i < rows.size(); i++) {
            Fireball row = rows.get(i);
            if (row.exists() && row.night >= from && row.night <= to && row.massByLight >= mass) {
                count++;
            }
        }
        return count;
    }

    // ---- weights of cells

    private Wind windOf(int night) {
        for (int i = 0; i < winds.size(); i++) {
            if (winds.get(i).night == night) {
                return winds.get(i);
            }
        }
        return null;
    }

    private boolean wasWalked(int fireball, int x, int y) {
        for (int i = 0; i < walks.size(); i++) {
            if (walks.get(i).isThrough(fireball, x, y)) {
                return true;
            }
        }
        return false;
    }

    private long chanceIn(Fireball fireball, int number, int x, int y) {
        Wind wind = windOf(fireball.night);
        if (wind == null) {
            field.scatter(fireball, 0, 0);
        } else {
            field.scatter(fireball, wind.x, wind.y);
        }
        return divided(weightLeft(field.weight(x, y), number, x, y) * MILLION, weightOfGround(number));
    }

    private long weightLeft(long unwalked, int fireball, int x, int y) {
        long weight = unwalked;
        for (int i = 0; i < walks.size(); i++) {
            Walk done = walks.get(i);
            if (done.isThrough(fireball, x, y)) {
                weight = weight * (100 - done.skill) / 100;
            }
        }
        return weight;
    }

    private long weightOfGround(int fireball) {
        long sum = field.weightOfGround();
        for (int i = 0; i < walks.size(); i++) {
            Walk done = walks.get(i);
            if (done.first && done.fireball == fireball) {
                long unwalked = field.weight(done.x, done.y);
                sum += weightLeft(unwalked, fireball, done.x, done.y) - unwalked;
            }
        }
        return sum;
    }

    private int fallOf(Stone stone) {
        int likeliest = NONE;
        long greatest = 0;
        for (int i = 0; i < rows.size(); i++) {
            Fireball row = rows.get(i);
            if (row.exists() && row.night <= stone.night) {
                long chance = chanceIn(row, i, stone.x, stone.y);
                if (chance > greatest) {
                    greatest = chance;
                    likeliest = i;
                }
            }
        }
        return likeliest;
    }

    // ---- rules, laws and names

    private int classIn(Stone stone, int year) {
        Rule latest = latestRule(year);
        if (latest == null || stone.iron == NONE) {
            return 0;
        }
        return latest.groupOf(stone.iron) + 10 * stone.texture + stone.shock;
    }

    private Rule latestRule(int year) {
        Rule latest = null;
        for (int i = 0; i <= year && i < rules.length; i++) {
            if (rules[i] != null) {
                latest = rules[i];
            }
        }
        return latest;
    }

    private static int landOf(int x, int y) {
        return (x < 50 ? 0 : 1) + (y < 50 ? 0 : 2);
    }

    private int lawIn(int land) {
        return land >= 0 && land < laws.length ? laws[land] : 0;
    }

    private int nextNumberOf(int place) {
        if (place < 0 || place >= namesOfPlaces.length) {
            return 0;
        }
        namesOfPlaces[place]++;
        return namesOfPlaces[place];
    }

    // ---- numbers

    private static long divided(long number, long by) {
        return by == 0 ? 0 : Math.floorDiv(number, by);
    }

    // Squares here stay below the square of 2 to the 31st, so that a root has 31 binary digits at most.
    private static long rootOf(long square) {
        long root = 0;
        for (int digit = 30; digit >= 0; digit--) {
            long tried = root + (1L << digit);
            if (tried * tried <= square) {
                root = tried;
            }
        }
        return root;
    }

    private static final class Camera {
        final int x;
        final int y;
        int wrong;

        Camera(int x, int y, int wrong) {
            this.x = x;
            this.y = y;
            this.wrong = wrong;
        }
    }

    private static final class Cloud {
        final Camera camera;
        final int night;

        Cloud(Camera camera, int night) {
            this.camera = camera;
            this.night = night;
        }
    }

    private static final class Sighting {
        final Camera camera;
        final int night;
        final int second;
        final int length;
        final int light;
        int beginX;
        int beginY;
        int endX;
        int endY;
        // The sightings that it joins directly, a bit for each of their numbers.
        long joined;
        int fireball = NONE;
        int lowest;

        Sighting(Camera camera, int night, int second, int length, int light) {
            this.camera = camera;
            this.night = night;
            this.second = second;
            this.length = length;
            this.light = light;
        }

        boolean counts() {
            return length <= 30 && light >= 50;
        }

        int rightSecond() {
            return second - camera.wrong;
        }

        boolean mayJoin(Sighting other) {
            return night == other.night && camera != other.camera && counts() && other.counts()
                    && Math.abs(rightSecond() - other.rightSecond()) <= 5;
        }
    }

    /** The place where two rays cross, in hundredths. */
    private static final class Crossing {
        long x;
        long y;

        boolean isOfBegins(Sighting one, Sighting other) {
            return isOf(one.camera, one.beginX, one.beginY, other.camera, other.beginX, other.beginY);
        }

        boolean isOfEnds(Sighting one, Sighting other) {
            return isOf(one.camera, one.endX, one.endY, other.camera, other.endX, other.endY);
        }

        // Tells whether the rays cross, and keeps where.
        boolean isOf(Camera one, int oneX, int oneY, Camera other, int otherX, int otherY) {
            long turn = (long) oneX * otherY - (long) oneY * otherX;
            long apartX = other.x - one.x;
            long apartY = other.y - one.y;
            // Both times are fractions with the turn below.
            long oneTime = apartX * otherY - apartY * otherX;
            long otherTime = apartX * oneY - apartY * oneX;
            if (turn < 0) {
                turn = -turn;
                oneTime = -oneTime;
                otherTime = -otherTime;
            }
            if (turn == 0 || oneTime <= 0 || otherTime <= 0) {
                return false;
            }
            x = Math.floorDiv(100 * (one.x * turn + oneTime * oneX), turn);
            y = Math.floorDiv(100 * (one.y * turn + oneTime * oneY), turn);
            return true;
        }
    }

    private static final class Fireball {
        int night;
        int sightings;
        int pairs;
        long lengths;
        long lightTimesLength;
        long greatestLight;
        // Sums over pairs, until the fireball is settled.
        long beginX;
        long beginY;
        long endX;
        long endY;
        long speed;
        long massByLight;
        long massBySpeed;

        boolean exists() {
            return sightings > 0;
        }

        void clear() {
            sightings = 0;
            pairs = 0;
            lengths = 0;
            lightTimesLength = 0;
            greatestLight = 0;
            beginX = 0;
            beginY = 0;
            endX = 0;
            endY = 0;
        }

        void add(Sighting one) {
            night = one.night;
            sightings++;
            lengths += one.length;
            lightTimesLength += (long) one.light * one.length;
            greatestLight = Math.max(greatestLight, one.light);
        }

        void addPair(Crossing begins, Crossing ends) {
            pairs++;
            beginX += begins.x;
            beginY += begins.y;
            endX += ends.x;
            endY += ends.y;
        }

        void settle() {
            beginX = divided(beginX, pairs);
            beginY = divided(beginY, pairs);
            endX = divided(endX, pairs);
            endY = divided(endY, pairs);
            long distance = rootOf(flightX() * flightX() + flightY() * flightY());
            speed = divided(10 * distance * sightings, lengths);
            massByLight = divided(lightTimesLength, sightings);
            massBySpeed = divided(1000 * greatestLight, speed + 1);
        }

        long flightX() {
            return endX - beginX;
        }

        long flightY() {
            return endY - beginY;
        }

        long number(int what) {
            switch (what) {
                case 0:
                    return sightings;
                case 1:
                    return beginX;
                case 2:
                    return beginY;
                case 3:
                    return endX;
                case 4:
                    return endY;
                case 5:
                    return speed;
                case 6:
                    return massByLight;
                default:
                    return massBySpeed;
            }
        }

        boolean isAsFastAs(Fireball other) {
            return 10 * Math.abs(speed - other.speed) <= Math.max(speed, other.speed);
        }

        // A flight that ends where it began goes along with none, so it needs no test of its own.
        boolean fliesLike(Fireball other) {
            long across = flightX() * other.flightY() - flightY() * other.flightX();
            long along = flightX() * other.flightX() + flightY() * other.flightY();
            return along > 0 && 10 * Math.abs(across) <= along;
        }
    }

    private static final class Wind {
        final int night;
        int x;
        int y;

        Wind(int night) {
            this.night = night;
        }
    }

    private static final class Walk {
        final int fireball;
        final int x;
        final int y;
        final int skill;
        final boolean first;

        Walk(int fireball, int x, int y, int skill, boolean first) {
            this.fireball = fireball;
            this.x = x;
            this.y = y;
            this.skill = skill;
            this.first = first;
        }

        boolean isThrough(int number, int cellX, int cellY) {
            return fireball == number && x == cellX && y == cellY;
        }
    }

    /** Where the pieces of a fireball fall, before anyone walked there. */
    private static final class Field {
        private static final int SIZES = 5;
        private static final int REACH = 8;

        long endX;
        long endY;
        int windX;
        int windY;

        void scatter(Fireball fireball, int x, int y) {
            endX = fireball.endX;
            endY = fireball.endY;
            windX = x;
            windY = y;
        }

        long pieceX(int size) {
            return Math.floorDiv(endX + windX * 20 * (6 - size), 100L);
        }

        long pieceY(int size) {
            return Math.floorDiv(endY + windY * 20 * (6 - size), 100L);
        }

        long weight(int x, int y) {
            long sum = 0;
            for (int size = 1; size <= SIZES; size++) {
                long away = Math.max(Math.abs(x - pieceX(size)), Math.abs(y - pieceY(size)));
                sum += Math.max(0, REACH - away);
            }
            return MILLION * sum;
        }

        // A cell weighs one for each distance below the reach that it lies within, so squares of cells are counted.
        long weightOfGround() {
            long sum = 0;
            for (int size = 1; size <= SIZES; size++) {
                long x = pieceX(size);
                long y = pieceY(size);
                for (int within = 0; within < REACH; within++) {
                    sum += cellsWithin(x, within) * cellsWithin(y, within);
                }
            }
            return MILLION * sum;
        }

        static long cellsWithin(long middle, int within) {
            long least = Math.max(0, middle - within);
            long most = Math.min(LAST_CELL, middle + within);
            return Math.max(0, most - least + 1);
        }
    }

    private static final class Rule {
        final int first;
        final int second;

        Rule(int first, int second) {
            this.first = first;
            this.second = second;
        }

        int groupOf(int iron) {
            if (iron >= first) {
                return 100;
            }
            return iron >= second ? 200 : 300;
        }
    }

    private static final class Stone {
        final int number;
        final int x;
        final int y;
        final int night;
        final Stone origin;
        int grams;
        int lost;
        int owner;
        int where = KEPT;
        int laboratory = NONE;
        int iron = NONE;
        int texture;
        int shock;
        int place = NONE;
        int numberOfName;
        boolean doubtful;

        Stone(int number, int x, int y, int night, int grams, int owner, Stone origin) {
            this.number = number;
            this.x = x;
            this.y = y;
            this.night = night;
            this.grams = grams;
            this.owner = owner;
            this.origin = origin;
        }

        Stone pieceOf(int pieceNumber, int pieceGrams) {
            Stone piece = new Stone(pieceNumber, x, y, night, pieceGrams, owner, this);
            piece.iron = iron;
            piece.texture = texture;
            piece.shock = shock;
            return piece;
        }

        boolean isNear(Stone other) {
            return Math.abs(x - other.x) <= 10 && Math.abs(y - other.y) <= 10;
        }

        boolean isPartOf(Stone other) {
            for (Stone part = this; part != null; part = part.origin) {
                if (part == other) {
                    return true;
                }
            }
            return false;
        }

        boolean hasOwnName() {
            return place != NONE;
        }

        Stone namesake() {
            for (Stone part = this; part != null; part = part.origin) {
                if (part.hasOwnName()) {
                    return part;
                }
            }
            return null;
        }

        int number(int what) {
            switch (what) {
                case 0:
                    return grams;
                case 1:
                    return owner;
                case 2:
                    return where;
                case 3:
                    return laboratory;
                case 4:
                    return origin == null ? NONE : origin.number;
                case 5:
                    return fullName();
                case 6:
                    return isDoubtful() ? 1 : 0;
                default:
                    return lost;
            }
        }

        int fullName() {
            Stone named = namesake();
            return named == null ? NONE : 100 * named.place + named.numberOfName;
        }

        boolean isDoubtful() {
            Stone named = namesake();
            return named != null && named.doubtful;
        }
    }
}

/**
 * A book of addresses as it is on any day: places, streets, ranges of houses and delivery points,
 * with what became of them since.
 */
public final class AddressBook {
    public static final int NONE = -1, UNKNOWN = -11, OUTSIDE = -12, STATE = -13, ROOM = -14;
    public static final int OVER = -200;

    private static final int MOST_PLACES = 16, MOST_STREETS = 32, MOST_RANGES = 80, MOST_POINTS = 120;
    /** A call begins one stay at most, so an object's 512 calls never fill these rows. */
    private static final int MOST_STAYS = 512;

    private static final int LAST_CODE = 99999, LAST_NAME = 9999, LAST_HOUSE = 999, LAST_EXTRA = 25;
    private static final int LAST_DAY = 1000000, NEVER = LAST_DAY + 1;
    private static final int DAYS_OF_OLD_NUMBER = 180;

    private static final int ALL = 0, EVEN = 2;
    private static final int CLOSE = 0, SPLIT = 1, JOIN = 2, RENUMBER = 3, REMOVE = 4;

    private final Places places = new Places();
    private final Streets streets = new Streets();
    private final Ranges ranges = new Ranges();
    private final Points points = new Points();
    private final Stays stays = new Stays();
    /** For one call's use; all false between calls. */
    private final boolean[] taken = new boolean[LAST_HOUSE + 1];
    private int today = 0;

    public AddressBook() {
    }

    public int place(int code, int name) {
        if (!isWithin(code, 1, LAST_CODE) || !isName(name)) {
            return OUTSIDE;
        }
        if (places.withCode(code) != NONE) {
            return STATE;
        }
        return places.isFull() ? ROOM : places.add(code);
    }

    public int street(int place, int name) {
        if (!places.has(place)) {
            return UNKNOWN;
        }
        if (!isName(name)) {
            return OUTSIDE;
        }
        if (streets.named(place, name) != NONE) {
            return STATE;
        }
        return streets.isFull() ? ROOM : streets.add(place, name);
    }

    public int find(int code, int name) {
        int place = places.withCode(code);
        return place == NONE ? NONE : streets.named(place, name);
    }

    public int range(int street, int side, int low, int high, int day) {
        if (!streets.has(street)) {
            return UNKNOWN;
        }
        if (!isWithin(side, ALL, EVEN) || !isHouse(low) || !isHouse(high)
                || lowestOf(side, low) > highestOf(side, high) || !isTodayOrLater(day)) {
            return OUTSIDE;
        }
        if (streets.isGone(street)) {
            return STATE;
        }
        if (!ranges.hasRoomFor(1)) {
            return ROOM;
        }
        int over = ranges.leastOver(street, side, low, high);
        if (over != NONE) {
            return OVER - over;
        }
        today = day;
        return ranges.add(street, side, low, high);
    }

    public int point(int range, int house, int extra) {
        if (!ranges.has(range)) {
            return UNKNOWN;
        }
        if (!ranges.holds(range, house) || !isExtra(extra)) {
            return OUTSIDE;
        }
        if (!ranges.live[range] || isTaken(range, house, extra)) {
            return STATE;
        }
        if (points.isFull() || stays.isFull()) {
            return ROOM;
        }
        int point = points.add(range, ranges.street[range], extra);
        points.stay[point] = stays.begin(point, house, today);
        return point;
    }

    public int change(int kind, int a, int b, int day) {
        switch (kind) {
            case CLOSE:
                return close(a, day);
            case SPLIT:
                return split(a, b, day);
            case JOIN:
                return join(a, b, day);
            case RENUMBER:
                return renumber(a, b, day);
            case REMOVE:
                return remove(a, day);
            default:
                return OUTSIDE;
        }
    }

    public int alias(int street, int other, int day) {
        if (!streets.has(street) || !streets.has(other)) {
            return UNKNOWN;
        }
        if (!isTodayOrLater(day)) {
            return OUTSIDE;
        }
        if (streets.isGone(street) || ranges.anyLiveOf(street)) {
            return STATE;
        }
        if (streets.meaning(other, day) == street) {
            return 0;
        }
        streets.goInto(street, other, day);
        today = day;
        return 1;
    }

    public int at(int street, int house, int extra, int day) {
        if (!streets.has(street)) {
            return UNKNOWN;
        }
        if (!isHouse(house) || !isExtra(extra) || !isDay(day)) {
            return OUTSIDE;
        }
        int meant = streets.meaning(street, day);
        int lying = lyingAt(meant, house, extra, day);
        return lying != NONE ? lying : lastToLeave(meant, house, extra, day);
    }

    public int near(int street, int house) {
        if (!streets.has(street)) {
            return UNKNOWN;
        }
        if (!isHouse(house)) {
            return OUTSIDE;
        }
        int meant = streets.meaning(street, today);
        int best = NONE;
        for (int p = 0; p < points.size; p++) {
            if (isLiveOf(p, meant) && (best == NONE || isNearer(p, best, house))) {
                best = p;
            }
        }
        return best;
    }

    public int order(int point) {
        if (!points.has(point)) {
            return UNKNOWN;
        }
        if (!points.live[point]) {
            return STATE;
        }
        int street = ranges.street[points.range[point]];
        int before = 0;
        for (int p = 0; p < points.size; p++) {
            if (isLiveOf(p, street) && isEarlierOnRound(p, point)) {
                before++;
            }
        }
        return before;
    }

    public int holes(int street) {
        if (!streets.has(street)) {
            return UNKNOWN;
        }
        int meant = streets.meaning(street, today);
        return ranges.housesOf(meant) - housesWithPoint(meant);
    }

    public int where(int point, int what, int day) {
        if (!points.has(point)) {
            return UNKNOWN;
        }
        if (!isWithin(what, 0, 3) || !isDay(day)) {
            return OUTSIDE;
        }
        if (what == 2) {
            return points.extra[point];
        }
        if (what == 3) {
            return points.range[point];
        }
        int stay = stays.ofPointOn(point, day);
        if (stay == NONE) {
            return NONE;
        }
        return what == 1 ? stays.house[stay] : streets.meaning(points.firstStreet[point], day);
    }

    public int count(int what) {
        switch (what) {
            case 0:
                return places.size;
            case 1:
                return streets.size;
            case 2:
                return howManyTrue(ranges.live);
            case 3:
                return howManyTrue(points.live);
            case 4:
                return today;
            default:
                return OUTSIDE;
        }
    }

    private int close(int range, int day) {
        if (!ranges.has(range)) {
            return UNKNOWN;
        }
        if (!isTodayOrLater(day)) {
            return OUTSIDE;
        }
        if (!ranges.live[range]) {
            return STATE;
        }
        int closed = 0;
        for (int p = 0; p < points.size; p++) {
            if (points.live[p] && points.range[p] == range) {
                end(p, day);
                closed++;
            }
        }
        ranges.live[range] = false;
        today = day;
        return closed;
    }

    private int split(int range, int house, int day) {
        if (!ranges.has(range)) {
            return UNKNOWN;
        }
        if (!isTodayOrLater(day) || house <= ranges.lowest[range] || house > ranges.highest[range]) {
            return OUTSIDE;
        }
        if (!ranges.live[range]) {
            return STATE;
        }
        if (!ranges.hasRoomFor(2)) {
            return ROOM;
        }
        int street = ranges.street[range];
        int side = ranges.side[range];
        int lower = ranges.add(street, side, ranges.lowest[range], house - 1);
        int upper = ranges.add(street, side, house, ranges.highest[range]);
        ranges.live[range] = false;
        today = day;
        return giveToParts(range, lower, upper);
    }

    private int giveToParts(int range, int lower, int upper) {
        int given = 0;
        for (int p = 0; p < points.size; p++) {
            if (points.live[p] && points.range[p] == range) {
                points.range[p] = ranges.holds(lower, houseNow(p)) ? lower : upper;
                given++;
            }
        }
        return given;
    }

    private int join(int street, int other, int day) {
        if (!streets.has(street) || !streets.has(other)) {
            return UNKNOWN;
        }
        if (!isTodayOrLater(day)) {
            return OUTSIDE;
        }
        if (street == other || streets.isGone(street) || streets.isGone(other)) {
            return STATE;
        }
        int over = ranges.leastOverAnyOf(street, other);
        if (over != NONE) {
            return OVER - over;
        }
        int moved = howManyLiveOf(street);
        ranges.moveLive(street, other);
        streets.goInto(street, other, day);
        today = day;
        return moved;
    }

    private int renumber(int point, int house, int day) {
        if (!points.has(point)) {
            return UNKNOWN;
        }
        int range = points.range[point];
        if (!isTodayOrLater(day) || !ranges.holds(range, house)) {
            return OUTSIDE;
        }
        if (!points.live[point] || isTaken(range, house, points.extra[point])) {
            return STATE;
        }
        if (stays.isFull()) {
            return ROOM;
        }
        stays.end(points.stay[point], day);
        stays.left[points.stay[point]] = true;
        points.stay[point] = stays.begin(point, house, day);
        today = day;
        return 1;
    }

    private int remove(int point, int day) {
        if (!points.has(point)) {
            return UNKNOWN;
        }
        if (!isTodayOrLater(day)) {
            return OUTSIDE;
        }
        if (!points.live[point]) {
            return STATE;
        }
        end(point, day);
        today = day;
        return 1;
    }

    private void end(int point, int day) {
        stays.end(points.stay[point], day);
        points.live[point] = false;
    }

    private int houseNow(int point) {
        return stays.house[points.stay[point]];
    }

    /** Live ranges of a street share no house, so a range alone tells what stands at its houses. */
    private boolean isTaken(int range, int house, int extra) {
        for (int p = 0; p < points.size; p++) {
            if (points.live[p] && points.range[p] == range && points.extra[p] == extra && houseNow(p) == house) {
                return true;
            }
        }
        return false;
    }

    private boolean isLiveOf(int point, int street) {
        return points.live[point] && ranges.street[points.range[point]] == street;
    }

    private int howManyLiveOf(int street) {
        int live = 0;
        for (int p = 0; p < points.size; p++) {
            if (isLiveOf(p, street)) {
                live++;
            }
        }
        return live;
    }

    private int lyingAt(int meant, int house, int extra, int day) {
        for (int s = 0; s < stays.size; s++) {
            if (stays.holdsOn(s, day) && isStayAt(s, meant, house, extra, day)) {
                return stays.point[s];
            }
        }
        return NONE;
    }

    private int lastToLeave(int meant, int house, int extra, int day) {
        int best = NONE;
        for (int s = 0; s < stays.size; s++) {
            if (stays.isLeftShortlyBefore(s, day) && isStayAt(s, meant, house, extra, day)
                    && (best == NONE || stays.isLeftLater(s, best))) {
                best = s;
            }
        }
        return best == NONE ? NONE : stays.point[best];
    }

    /**
     * A point's street changes only by a join, from which day on the old street means the new one:
     * so the point's first street tells by its meaning the street of every later day.
     */
    private boolean isStayAt(int stay, int meant, int house, int extra, int day) {
        int point = stays.point[stay];
        return stays.house[stay] == house && points.extra[point] == extra
                && streets.meaning(points.firstStreet[point], day) == meant;
    }

    private boolean isNearer(int point, int best, int house) {
        int distance = Math.abs(houseNow(point) - house);
        int bestDistance = Math.abs(houseNow(best) - house);
        if (distance != bestDistance) {
            return distance < bestDistance;
        }
        if (houseNow(point) != houseNow(best)) {
            return houseNow(point) < houseNow(best);
        }
        return points.extra[point] < points.extra[best];
    }

    private boolean isEarlierOnRound(int point, int other) {
        int house = houseNow(point);
        int otherHouse = houseNow(other);
        if (house == otherHouse) {
            return points.extra[point] < points.extra[other];
        }
        if (isOdd(house) != isOdd(otherHouse)) {
            return isOdd(house);
        }
        return isOdd(house) ? house < otherHouse : house > otherHouse;
    }

    private int housesWithPoint(int street) {
        int houses = 0;
        for (int p = 0; p < points.size; p++) {
            if (isLiveOf(p, street) && !taken[houseNow(p)]) {
                taken[houseNow(p)] = true;
                houses++;
            }
        }
        for (int p = 0; p < points.size; p++) {
            taken[houseNow(p)] = false;
        }
        return houses;
    }

    private boolean isTodayOrLater(int day) {
        return isWithin(day, today, LAST_DAY);
    }

    private static boolean isDay(int day) {
        return isWithin(day, 0, LAST_DAY);
    }

    private static boolean isName(int name) {
        return isWithin(name, 0, LAST_NAME);
    }

    private static boolean isHouse(int house) {
        return isWithin(house, 1, LAST_HOUSE);
    }

    private static boolean isExtra(int extra) {
        return isWithin(extra, 0, LAST_EXTRA);
    }

    private static boolean isWithin(int number, int least, int most) {
        return number >= least && number <= most;
    }

    private static boolean isOdd(int house) {
        return (house & 1) == 1;
    }

    private static boolean isOfSide(int side, int house) {
        return side == ALL || isOdd(house) == isOdd(side);
    }

    private static int lowestOf(int side, int low) {
        return isOfSide(side, low) ? low : low + 1;
    }

    private static int highestOf(int side, int high) {
        return isOfSide(side, high) ? high : high - 1;
    }

    private static int howManyTrue(boolean[] flags) {
        int set = 0;
        for (int i = 0; i < flags.length; i++) {
            if (flags[i]) {
                set++;
            }
        }
        return set;
    }

    /** No call tells a place's name, so that it is looked at but not kept. */
    private static final class Places {
        private final int[] code = new int[MOST_PLACES];
        private int size = 0;

        private boolean has(int place) {
            return place >= 0 && place < size;
        }

        private boolean isFull() {
            return size >= MOST_PLACES;
        }

        private int withCode(int wanted) {
            for (int p = 0; p < size; p++) {
                if (code[p] == wanted) {
                    return p;
                }
            }
            return NONE;
        }

        private int add(int newCode) {
            code[size] = newCode;
            size++;
            return size - 1;
        }
    }

    private static final class Streets {
        private final int[] place = new int[MOST_STREETS];
        private final int[] name = new int[MOST_STREETS];
        private final boolean[] gone = new boolean[MOST_STREETS];
        private final int[] into = new int[MOST_STREETS];
        private final int[] since = new int[MOST_STREETS];
        private int size = 0;

        private boolean has(int street) {
            return street >= 0 && street < size;
        }

        private boolean isFull() {
            return size >= MOST_STREETS;
        }

        private int named(int ofPlace, int wanted) {
            for (int s = 0; s < size; s++) {
                if (place[s] == ofPlace && name[s] == wanted) {
                    return s;
                }
            }
            return NONE;
        }

        private int add(int ofPlace, int newName) {
            place[size] = ofPlace;
            name[size] = newName;
            size++;
            return size - 1;
        }

        private boolean isGone(int street) {
            return gone[street];
        }

        private void goInto(int street, int other, int day) {
            gone[street] = true;
            into[street] = other;
            since[street] = day;
        }

        /** No street goes into one that means itself, so a chain has fewer steps than there are streets. */
        private int meaning(int street, int day) {
            int meant = street;
            for (int step = 0; step < size && gone[meant] && since[meant] <= day; step++) {
                meant = into[meant];
            }
            return meant;
        }
    }

    /** Of low and high the first and the last house of the side are kept. */
    private static final class Ranges {
        private final int[] street = new int[MOST_RANGES];
        private final int[] side = new int[MOST_RANGES];
        private final int[] lowest = new int[MOST_RANGES];
        private final int[] highest = new int[MOST_RANGES];
        private final boolean[] live = new boolean[MOST_RANGES];
        private int size = 0;

        private boolean has(int range) {
            return range >= 0 && range < size;
        }

        private boolean hasRoomFor(int more) {
            return size + more <= MOST_RANGES;
        }

        private int add(int ofStreet, int ofSide, int low, int high) {
            street[size] = ofStreet;
            side[size] = ofSide;
            lowest[size] = lowestOf(ofSide, low);
            highest[size] = highestOf(ofSide, high);
            live[size] = true;
            size++;
            return size - 1;
        }

        private boolean holds(int range, int house) {
            return isWithin(house, lowest[range], highest[range]) && isOfSide(side[range], house);
        }

        private boolean isLiveOf(int range, int ofStreet) {
            return live[range] && street[range] == ofStreet;
        }

        private boolean anyLiveOf(int ofStreet) {
            for (int r = 0; r < size; r++) {
                if (isLiveOf(r, ofStreet)) {
                    return true;
                }
            }
            return false;
        }

        private int leastOver(int ofStreet, int ofSide, int low, int high) {
            for (int r = 0; r < size; r++) {
                if (isLiveOf(r, ofStreet) && isOver(r, ofSide, low, high)) {
                    return r;
                }
            }
            return NONE;
        }

        private int leastOverAnyOf(int ofStreet, int other) {
            for (int r = 0; r < size; r++) {
                if (isLiveOf(r, other)
                        && leastOver(ofStreet, side[r], lowest[r], highest[r]) != NONE) {
                    return r;
                }
            }
            return NONE;
        }

        private boolean isOver(int range, int ofSide, int low, int high) {
            if (ofSide != ALL && side[range] != ALL && ofSide != side[range]) {
                return false;
            }
            int common = ofSide == ALL ? side[range] : ofSide;
            return lowestOf(common, Math.max(low, lowest[range]))
                    <= highestOf(common, Math.min(high, highest[range]));
        }

        private int housesOf(int ofStreet) {
            int houses = 0;
            for (int r = 0; r < size; r++) {
                if (isLiveOf(r, ofStreet)) {
                    int width = highest[r] - lowest[r];
                    houses += 1 + (side[r] == ALL ? width : width / 2);
                }
            }
            return houses;
        }

        private void moveLive(int ofStreet, int other) {
            for (int r = 0; r < size; r++) {
                if (isLiveOf(r, ofStreet)) {
                    street[r] = other;
                }
            }
        }
    }

    private static final class Points {
        private final int[] range = new int[MOST_POINTS];
        private final int[] firstStreet = new int[MOST_POINTS];
        private final int[] extra = new int[MOST_POINTS];
        /** The latest stay of each. */
        private final int[] stay = new int[MOST_POINTS];
        private final boolean[] live = new boolean[MOST_POINTS];
        private int size = 0;

        private boolean has(int point) {
            return point >= 0 && point < size;
        }

        private boolean isFull() {
            return size >= MOST_POINTS;
        }

        private int add(int ofRange, int ofStreet, int newExtra) {
            range[size] = ofRange;
            firstStreet[size] = ofStreet;
            extra[size] = newExtra;
            live[size] = true;
            size++;
            return size - 1;
        }
    }

    /** Which house a point had from a day on till another day, when it had it no more. */
    private static final class Stays {
        private final int[] point = new int[MOST_STAYS];
        private final int[] house = new int[MOST_STAYS];
        private final int[] from = new int[MOST_STAYS];
        private final int[] till = new int[MOST_STAYS];
        /** Whether the stay ended because the point got another house. */
        private final boolean[] left = new boolean[MOST_STAYS];
        private int size = 0;

        private boolean isFull() {
            return size >= MOST_STAYS;
        }

        private int begin(int ofPoint, int atHouse, int day) {
            point[size] = ofPoint;
            house[size] = atHouse;
            from[size] = day;
            till[size] = NEVER;
            size++;
            return size - 1;
        }

        private void end(int stay, int day) {
            till[stay] = day;
        }

        private boolean holdsOn(int stay, int day) {
            return from[stay] <= day && day < till[stay];
        }

        private int ofPointOn(int ofPoint, int day) {
            for (int s = 0; s < size; s++) {
                if (point[s] == ofPoint && holdsOn(s, day)) {
                    return s;
                }
            }
            return NONE;
        }

        private boolean isLeftShortlyBefore(int stay, int day) {
            return left[stay] && till[stay] <= day && day - till[stay] < DAYS_OF_OLD_NUMBER;
        }

        private boolean isLeftLater(int stay, int best) {
            if (till[stay] != till[best]) {
                return till[stay] > till[best];
            }
            return point[stay] < point[best];
        }
    }
}

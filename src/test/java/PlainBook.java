import java.util.ArrayList;
import java.util.List;
import java.util.Map;
import java.util.TreeMap;
import java.util.TreeSet;

/**
 * The document's book written in another way than AddressBook: whole copies of who lies where are kept
 * for every day, ranges are sets of houses, and streets are moved point by point.
 */
final class PlainBook {
    private static final int NONE = -1, UNKNOWN = -11, OUTSIDE = -12, STATE = -13, ROOM = -14, OVER = -200;

    private record Street(int place, int name) { }

    private record Gone(int into, int since) { }

    private record Spot(int street, int house) { }

    private record Left(int point, Spot spot, int day) { }

    private static final class Range {
        int street;
        final int side;
        final TreeSet<Integer> houses = new TreeSet<>();
        boolean live = true;

        Range(int street, int side, int low, int high) {
            this.street = street;
            this.side = side;
            for (int house = low; house <= high; house++) {
                if (side == 0 || side == 1 && house % 2 == 1 || side == 2 && house % 2 == 0) {
                    houses.add(house);
                }
            }
        }

        boolean isOver(Range other) {
            return houses.stream().anyMatch(other.houses::contains);
        }
    }

    private static final class Point {
        Range range;
        final int extra;
        Spot spot;

        Point(Range range, int extra, Spot spot) {
            this.range = range;
            this.extra = extra;
            this.spot = spot;
        }
    }

    private final List<Integer> places = new ArrayList<>();
    private final List<Street> streets = new ArrayList<>();
    private final Map<Integer, Gone> gone = new TreeMap<>();
    private final List<Range> ranges = new ArrayList<>();
    private final List<Point> points = new ArrayList<>();
    private final List<Left> left = new ArrayList<>();
    private final TreeMap<Integer, Map<Integer, Spot>> spotsOfDay = new TreeMap<>();
    private int today = 0;

    int place(int code, int name) {
        if (code < 1 || code > 99999 || name < 0 || name > 9999) return OUTSIDE;
        if (places.contains(code)) return STATE;
        if (places.size() == 16) return ROOM;
        places.add(code);
        return places.size() - 1;
    }

    int street(int place, int name) {
        if (place < 0 || place >= places.size()) return UNKNOWN;
        if (name < 0 || name > 9999) return OUTSIDE;
        if (streets.contains(new Street(place, name))) return STATE;
        if (streets.size() == 32) return ROOM;
        streets.add(new Street(place, name));
        return streets.size() - 1;
    }

    int find(int code, int name) {
        return streets.indexOf(new Street(places.indexOf(code), name));
    }

    int range(int street, int side, int low, int high, int day) {
        if (noStreet(street)) return UNKNOWN;
        if (side < 0 || side > 2 || low < 1 || low > 999 || high < 1 || high > 999 || noDayNow(day)) return OUTSIDE;
        Range range = new Range(street, side, low, high);
        if (range.houses.isEmpty()) return OUTSIDE;
        if (gone.containsKey(street)) return STATE;
        if (ranges.size() == 80) return ROOM;
        for (Range other : liveRanges(street)) {
            if (other.isOver(range)) return OVER - ranges.indexOf(other);
        }
        ranges.add(range);
        return told(day, ranges.size() - 1);
    }

    int point(int range, int house, int extra) {
        if (range < 0 || range >= ranges.size()) return UNKNOWN;
        Range of = ranges.get(range);
        if (!of.houses.contains(house) || extra < 0 || extra > 25) return OUTSIDE;
        if (!of.live || isThere(of.street, house, extra)) return STATE;
        if (points.size() == 120) return ROOM;
        points.add(new Point(of, extra, new Spot(of.street, house)));
        return told(today, points.size() - 1);
    }

    int change(int kind, int a, int b, int day) {
        if (kind < 0 || kind > 4) return OUTSIDE;
        int known = kind < 2 ? ranges.size() : kind == 2 ? streets.size() : points.size();
        if (a < 0 || a >= known || kind == 2 && noStreet(b)) return UNKNOWN;
        if (noDayNow(day)) return OUTSIDE;
        if (kind < 2) return changeRange(kind, ranges.get(a), b, day);
        return kind == 2 ? join(a, b, day) : changePoint(kind, points.get(a), b, day);
    }

    private int changeRange(int kind, Range range, int b, int day) {
        if (kind == 1 && (b <= range.houses.first() || b > range.houses.last())) return OUTSIDE;
        if (!range.live) return STATE;
        if (kind == 1 && ranges.size() > 78) return ROOM;
        range.live = false;
        Range lower = new Range(range.street, range.side, 1, 0);
        Range upper = new Range(range.street, range.side, 1, 0);
        lower.houses.addAll(range.houses.headSet(b));
        upper.houses.addAll(range.houses.tailSet(b));
        if (kind == 1) {
            ranges.add(lower);
            ranges.add(upper);
        }
        int touched = 0;
        for (Point point : points) {
            if (point.spot != null && point.range == range) {
                touched++;
                if (kind == 1) point.range = point.spot.house() < b ? lower : upper;
                else point.spot = null;
            }
        }
        return told(day, touched);
    }

    private int join(int a, int b, int day) {
        if (a == b || gone.containsKey(a) || gone.containsKey(b)) return STATE;
        for (Range ofB : liveRanges(b)) {
            for (Range ofA : liveRanges(a)) {
                if (ofA.isOver(ofB)) return OVER - ranges.indexOf(ofB);
            }
        }
        gone.put(a, new Gone(b, day));
        for (Range range : liveRanges(a)) range.street = b;
        int moved = 0;
        for (Point point : points) {
            if (point.spot != null && point.spot.street() == a) {
                point.spot = new Spot(b, point.spot.house());
                moved++;
            }
        }
        return told(day, moved);
    }

    private int changePoint(int kind, Point point, int b, int day) {
        if (kind == 3 && !point.range.houses.contains(b)) return OUTSIDE;
        if (point.spot == null) return STATE;
        if (kind == 3 && isThere(point.spot.street(), b, point.extra)) return STATE;
        if (kind == 3) left.add(new Left(points.indexOf(point), point.spot, day));
        point.spot = kind == 3 ? new Spot(point.spot.street(), b) : null;
        return told(day, 1);
    }

    int alias(int street, int other, int day) {
        if (noStreet(street) || noStreet(other)) return UNKNOWN;
        if (noDayNow(day)) return OUTSIDE;
        if (gone.containsKey(street) || !liveRanges(street).isEmpty()) return STATE;
        if (means(other, day) == street) return 0;
        gone.put(street, new Gone(other, day));
        return told(day, 1);
    }

    int at(int street, int house, int extra, int day) {
        if (noStreet(street)) return UNKNOWN;
        if (house < 1 || house > 999 || extra < 0 || extra > 25 || day < 0 || day > 1000000) return OUTSIDE;
        Spot wanted = new Spot(means(street, day), house);
        for (Map.Entry<Integer, Spot> lying : spotsOn(day).entrySet()) {
            if (wanted.equals(lying.getValue()) && points.get(lying.getKey()).extra == extra) return lying.getKey();
        }
        Left best = null;
        for (Left one : left) {
            boolean from = wanted.equals(new Spot(means(one.spot.street(), day), one.spot.house()));
            boolean shortly = one.day == day || one.day < day && day - one.day < 180;
            if (!from || !shortly || points.get(one.point).extra != extra) continue;
            if (best == null || one.day > best.day || one.day == best.day && one.point < best.point) best = one;
        }
        return best == null ? NONE : best.point;
    }

    int near(int street, int house) {
        if (noStreet(street)) return UNKNOWN;
        if (house < 1 || house > 999) return OUTSIDE;
        Point best = null;
        for (Point point : livePoints(means(street, today))) {
            if (best == null || nearness(point, house) < nearness(best, house)) best = point;
        }
        return points.indexOf(best);
    }

    private static int nearness(Point point, int house) {
        return (Math.abs(point.spot.house() - house) * 1000 + point.spot.house()) * 26 + point.extra;
    }

    int order(int point) {
        if (point < 0 || point >= points.size()) return UNKNOWN;
        Point of = points.get(point);
        if (of.spot == null) return STATE;
        return (int) livePoints(of.spot.street()).stream().filter(other -> turn(other) < turn(of)).count();
    }

    private static int turn(Point point) {
        int house = point.spot.house();
        return (house % 2 == 1 ? house : 3000 - house) * 26 + point.extra;
    }

    int holes(int street) {
        if (noStreet(street)) return UNKNOWN;
        TreeSet<Integer> houses = new TreeSet<>();
        for (Range range : liveRanges(means(street, today))) houses.addAll(range.houses);
        for (Point point : livePoints(means(street, today))) houses.remove(point.spot.house());
        return houses.size();
    }

    int where(int point, int what, int day) {
        if (point < 0 || point >= points.size()) return UNKNOWN;
        if (what < 0 || what > 3 || day < 0 || day > 1000000) return OUTSIDE;
        if (what == 2) return points.get(point).extra;
        if (what == 3) return ranges.indexOf(points.get(point).range);
        Spot spot = spotsOn(day).get(point);
        return spot == null ? NONE : what == 0 ? spot.street() : spot.house();
    }

    int count(int what) {
        switch (what) {
            case 0: return places.size();
            case 1: return streets.size();
            case 2: return (int) ranges.stream().filter(range -> range.live).count();
            case 3: return (int) points.stream().filter(point -> point.spot != null).count();
            case 4: return today;
            default: return OUTSIDE;
        }
    }

    /** How many ranges there ever were; this and what follows lets a test choose calls that are not refused. */
    int ranges() {
        return ranges.size();
    }

    int points() {
        return points.size();
    }

    boolean fits(int range, int house) {
        return range >= 0 && range < ranges.size() && ranges.get(range).live
                && ranges.get(range).houses.contains(house);
    }

    boolean canGet(int point, int house) {
        return point >= 0 && point < points.size() && points.get(point).spot != null
                && points.get(point).range.houses.contains(house);
    }

    private int told(int day, int answer) {
        today = day;
        Map<Integer, Spot> spots = new TreeMap<>();
        for (int p = 0; p < points.size(); p++) {
            if (points.get(p).spot != null) spots.put(p, points.get(p).spot);
        }
        spotsOfDay.put(day, spots);
        return answer;
    }

    private Map<Integer, Spot> spotsOn(int day) {
        Map.Entry<Integer, Map<Integer, Spot>> entry = spotsOfDay.floorEntry(day);
        return entry == null ? Map.of() : entry.getValue();
    }

    private int means(int street, int day) {
        Gone way = gone.get(street);
        return way == null || way.since() > day ? street : means(way.into(), day);
    }

    private boolean noStreet(int street) {
        return street < 0 || street >= streets.size();
    }

    private boolean noDayNow(int day) {
        return day < today || day > 1000000;
    }

    private List<Range> liveRanges(int street) {
        return ranges.stream().filter(range -> range.live && range.street == street).toList();
    }

    private List<Point> livePoints(int street) {
        return points.stream().filter(point -> point.spot != null && point.spot.street() == street).toList();
    }

    private boolean isThere(int street, int house, int extra) {
        return livePoints(street).stream().anyMatch(p -> p.spot.house() == house && p.extra == extra);
    }
}

/** Terms: of several refusals the answer is the first one of UNKNOWN, OUTSIDE, STATE, ROOM, OVER. */
public final class T08RefusalsTest extends Sentences {
    private static final int NO_DAY = -1;

    public static void main(String[] args) {
        sentence("REFUSALS are answers, of several the first one here");
        ofPlace();
        ofStreet();
        ofRange();
        ofPoint();
        ofClose();
        ofSplit();
        ofJoin();
        ofRenumber();
        ofRemove();
        ofAlias();
        ofAsking();
        due.end();
    }

    private static void ofPlace() {
        CountedBook book = withPlaces(15);
        due.is("place, OUTSIDE (code) and OUTSIDE (name)", book.place(0, -1), OUTSIDE);
        due.is("place, OUTSIDE (name) and STATE", book.place(10, 10000), OUTSIDE);
        book.place(99, 0);
        due.is("place, OUTSIDE (code) and ROOM", book.place(0, 0), OUTSIDE);
        due.is("place, OUTSIDE (name) and ROOM", book.place(100, -1), OUTSIDE);
        due.is("place, OUTSIDE, STATE and ROOM", book.place(99, -1), OUTSIDE);
        due.is("place, STATE and ROOM", book.place(99, 0), STATE);
        due.is("place, ROOM", book.place(100, 0), ROOM);
    }

    private static void ofStreet() {
        CountedBook book = withStreets(31);
        due.is("street, UNKNOWN and OUTSIDE", book.street(1, -1), UNKNOWN);
        due.is("street, UNKNOWN, below, and OUTSIDE", book.street(-1, 10000), UNKNOWN);
        due.is("street, UNKNOWN and a name that is elsewhere", book.street(1, 0), UNKNOWN);
        book.street(0, 31);
        due.is("street, UNKNOWN and ROOM", book.street(1, 50), UNKNOWN);
        due.is("street, UNKNOWN, OUTSIDE and ROOM", book.street(1, 10000), UNKNOWN);
        due.is("street, OUTSIDE and ROOM", book.street(0, 10000), OUTSIDE);
        due.is("street, STATE and ROOM", book.street(0, 31), STATE);
        due.is("street, ROOM", book.street(0, 32), ROOM);
    }

    private static void ofRange() {
        CountedBook book = withRanges(79);
        book.alias(1, 2, 5);
        due.is("range, UNKNOWN and OUTSIDE", book.range(4, 3, 0, 1000, NO_DAY), UNKNOWN);
        due.is("range, OUTSIDE (side) and STATE", book.range(1, 3, 1, 2, 5), OUTSIDE);
        due.is("range, OUTSIDE (low) and STATE", book.range(1, ALL, 0, 2, 5), OUTSIDE);
        due.is("range, OUTSIDE (high) and STATE", book.range(1, ALL, 1, 1000, 5), OUTSIDE);
        due.is("range, OUTSIDE (no house) and STATE", book.range(1, EVEN, 1, 1, 5), OUTSIDE);
        due.is("range, OUTSIDE (day) and STATE", book.range(1, ALL, 1, 2, 4), OUTSIDE);
        due.is("range, OUTSIDE (side) and OVER", book.range(0, 3, 1, 2, 5), OUTSIDE);
        due.is("range, OUTSIDE (low) and OVER", book.range(0, ALL, 0, 2, 5), OUTSIDE);
        due.is("range, OUTSIDE (high) and OVER", book.range(0, ALL, 1, 1000, 5), OUTSIDE);
        due.is("range, OUTSIDE (day) and OVER", book.range(0, ALL, 1, 2, 4), OUTSIDE);
        due.is("range, OVER", book.range(0, ALL, 1, 2, 5), OVER);
        book.range(2, ALL, 1, 2, 5);
        due.is("range, UNKNOWN and ROOM", book.range(4, ALL, 1, 2, 5), UNKNOWN);
        due.is("range, OUTSIDE (no house) and ROOM", book.range(0, ALL, 2, 1, 5), OUTSIDE);
        due.is("range, OUTSIDE (day), ROOM and OVER", book.range(0, ALL, 1, 2, 4), OUTSIDE);
        due.is("range, STATE and ROOM", book.range(1, ALL, 1, 2, 5), STATE);
        due.is("range, ROOM and OVER", book.range(0, ALL, 1, 2, 5), ROOM);
        due.is("range, ROOM", book.range(0, ALL, 900, 900, 5), ROOM);
    }

    private static void ofPoint() {
        CountedBook book = withPoints(119);
        book.range(0, ALL, 21, 30, 5);
        book.point(1, 21, 0);
        book.change(CLOSE, 1, 0, 6);
        due.is("point, UNKNOWN, OUTSIDE and ROOM", book.point(2, 0, 26), UNKNOWN);
        due.is("point, UNKNOWN, below, OUTSIDE and ROOM", book.point(-1, 0, 26), UNKNOWN);
        due.is("point, UNKNOWN and ROOM", book.point(2, 21, 0), UNKNOWN);
        due.is("point, OUTSIDE (house), STATE (range) and ROOM", book.point(1, 31, 0), OUTSIDE);
        due.is("point, OUTSIDE (extra), STATE (range) and ROOM", book.point(1, 21, 26), OUTSIDE);
        due.is("point, OUTSIDE (house) and ROOM", book.point(0, 21, 0), OUTSIDE);
        due.is("point, OUTSIDE (extra) and ROOM", book.point(0, 1, -1), OUTSIDE);
        due.is("point, STATE (range) and ROOM", book.point(1, 22, 0), STATE);
        due.is("point, STATE (a live one is there) and ROOM", book.point(0, 1, 0), STATE);
        due.is("point, ROOM", book.point(0, 20, 0), ROOM);
        CountedBook few = withRange(ALL, 1, 20);
        few.change(CLOSE, 0, 0, 0);
        due.is("point, OUTSIDE (house) and STATE (range)", few.point(0, 21, 0), OUTSIDE);
        due.is("point, OUTSIDE (extra) and STATE (range)", few.point(0, 1, 26), OUTSIDE);
        due.is("point, STATE (range)", few.point(0, 1, 25), STATE);
    }

    private static void ofClose() {
        CountedBook book = withPoint();
        book.change(CLOSE, 0, 0, 5);
        due.is("close, UNKNOWN and OUTSIDE", book.change(CLOSE, 1, 0, 4), UNKNOWN);
        due.is("close, OUTSIDE and STATE", book.change(CLOSE, 0, 0, 4), OUTSIDE);
        due.is("close, OUTSIDE, too late, and STATE", book.change(CLOSE, 0, 0, LAST_DAY + 1), OUTSIDE);
        due.is("close, STATE", book.change(CLOSE, 0, 0, 5), STATE);
    }

    private static void ofSplit() {
        CountedBook book = withRanges(79);
        book.change(CLOSE, 0, 0, 5);
        due.is("split, UNKNOWN, OUTSIDE and ROOM", book.change(SPLIT, 79, 0, 4), UNKNOWN);
        due.is("split, UNKNOWN and ROOM", book.change(SPLIT, 79, 5, 5), UNKNOWN);
        due.is("split, OUTSIDE (day), STATE and ROOM", book.change(SPLIT, 0, 2, 4), OUTSIDE);
        due.is("split, OUTSIDE (house), STATE and ROOM", book.change(SPLIT, 0, 1, 5), OUTSIDE);
        due.is("split, OUTSIDE (house above), STATE and ROOM", book.change(SPLIT, 0, 3, 5), OUTSIDE);
        due.is("split, STATE and ROOM", book.change(SPLIT, 0, 2, 5), STATE);
        due.is("split, OUTSIDE (day) and ROOM", book.change(SPLIT, 1, 5, 4), OUTSIDE);
        due.is("split, OUTSIDE (house) and ROOM", book.change(SPLIT, 1, 4, 5), OUTSIDE);
        due.is("split, ROOM", book.change(SPLIT, 1, 5, 5), ROOM);
        CountedBook few = withRange(ALL, 1, 20);
        few.change(SPLIT, 0, 10, 5);
        due.is("split, OUTSIDE (day) and STATE", few.change(SPLIT, 0, 10, 4), OUTSIDE);
        due.is("split, OUTSIDE (house) and STATE", few.change(SPLIT, 0, 21, 5), OUTSIDE);
        due.is("split, STATE", few.change(SPLIT, 0, 10, 5), STATE);
    }

    private static void ofJoin() {
        CountedBook book = withPoint();
        book.range(1, ALL, 20, 30, 5);
        book.alias(2, 3, 5);
        due.is("join, UNKNOWN (a) and OUTSIDE", book.change(JOIN, 4, 0, 4), UNKNOWN);
        due.is("join, UNKNOWN (b) and OUTSIDE", book.change(JOIN, 0, 4, 4), UNKNOWN);
        due.is("join, UNKNOWN (b) and STATE (a)", book.change(JOIN, 2, 4, 5), UNKNOWN);
        due.is("join, UNKNOWN (a) and STATE (b)", book.change(JOIN, 4, 2, 5), UNKNOWN);
        due.is("join, UNKNOWN (both, and they are one)", book.change(JOIN, 4, 4, 5), UNKNOWN);
        due.is("join, OUTSIDE and STATE (a)", book.change(JOIN, 2, 0, 4), OUTSIDE);
        due.is("join, OUTSIDE and STATE (b)", book.change(JOIN, 0, 2, 4), OUTSIDE);
        due.is("join, OUTSIDE and STATE (they are one)", book.change(JOIN, 0, 0, 4), OUTSIDE);
        due.is("join, OUTSIDE and OVER", book.change(JOIN, 0, 1, 4), OUTSIDE);
        due.is("join, OUTSIDE, too late, and OVER", book.change(JOIN, 0, 1, LAST_DAY + 1), OUTSIDE);
        due.is("join, STATE (they are one) and OVER", book.change(JOIN, 0, 0, 5), STATE);
        due.is("join, STATE (a)", book.change(JOIN, 2, 0, 5), STATE);
        due.is("join, STATE (b)", book.change(JOIN, 0, 2, 5), STATE);
        due.is("join, OVER", book.change(JOIN, 0, 1, 5), OVER - 1);
    }

    private static void ofRenumber() {
        CountedBook book = withPoint();
        book.point(0, 4, 0);
        book.point(0, 5, 0);
        book.change(REMOVE, 2, 0, 5);
        due.is("renumber, UNKNOWN and OUTSIDE", book.change(RENUMBER, 3, 0, 4), UNKNOWN);
        due.is("renumber, OUTSIDE (day) and STATE (removed)", book.change(RENUMBER, 2, 6, 4), OUTSIDE);
        due.is("renumber, OUTSIDE (house) and STATE (removed)", book.change(RENUMBER, 2, 21, 5), OUTSIDE);
        due.is("renumber, OUTSIDE (day) and STATE (itself)", book.change(RENUMBER, 0, 3, 4), OUTSIDE);
        due.is("renumber, OUTSIDE (day) and STATE (another)", book.change(RENUMBER, 0, 4, 4), OUTSIDE);
        due.is("renumber, STATE (removed)", book.change(RENUMBER, 2, 6, 5), STATE);
        due.is("renumber, STATE (itself)", book.change(RENUMBER, 0, 3, 5), STATE);
        due.is("renumber, STATE (another)", book.change(RENUMBER, 0, 4, 5), STATE);
        book.change(CLOSE, 0, 0, 6);
        due.is("renumber, OUTSIDE (house) and STATE (closed)", book.change(RENUMBER, 0, 21, 6), OUTSIDE);
        due.is("renumber, STATE (closed)", book.change(RENUMBER, 0, 6, 6), STATE);
    }

    private static void ofRemove() {
        CountedBook book = withPoint();
        book.change(REMOVE, 0, 0, 5);
        due.is("remove, UNKNOWN and OUTSIDE", book.change(REMOVE, 1, 0, 4), UNKNOWN);
        due.is("remove, OUTSIDE and STATE", book.change(REMOVE, 0, 0, 4), OUTSIDE);
        due.is("remove, OUTSIDE, too late, and STATE", book.change(REMOVE, 0, 0, LAST_DAY + 1), OUTSIDE);
        due.is("remove, STATE", book.change(REMOVE, 0, 0, 5), STATE);
    }

    private static void ofAlias() {
        CountedBook book = withPoint();
        book.alias(1, 2, 5);
        due.is("alias, UNKNOWN (street) and OUTSIDE", book.alias(4, 0, 4), UNKNOWN);
        due.is("alias, UNKNOWN (other) and OUTSIDE", book.alias(2, 4, 4), UNKNOWN);
        due.is("alias, UNKNOWN (other) and STATE (live ranges)", book.alias(0, 4, 5), UNKNOWN);
        due.is("alias, UNKNOWN (other) and STATE (gone)", book.alias(1, -1, 5), UNKNOWN);
        due.is("alias, UNKNOWN (both, and they are one)", book.alias(4, 4, 5), UNKNOWN);
        due.is("alias, OUTSIDE and STATE (live ranges)", book.alias(0, 2, 4), OUTSIDE);
        due.is("alias, OUTSIDE and STATE (gone)", book.alias(1, 0, 4), OUTSIDE);
        due.is("alias, OUTSIDE and the answer 0", book.alias(2, 2, 4), OUTSIDE);
        due.is("alias, OUTSIDE, too late, and the answer 0", book.alias(2, 1, LAST_DAY + 1), OUTSIDE);
        due.is("alias, STATE (live ranges) and the answer 0", book.alias(0, 0, 5), STATE);
        due.is("alias, STATE (gone), itself", book.alias(1, 1, 5), STATE);
        due.is("alias, the answer 0", book.alias(2, 1, 5), 0);
    }

    private static void ofAsking() {
        CountedBook book = withPoint();
        book.change(REMOVE, 0, 0, 5);
        due.is("at, UNKNOWN and OUTSIDE (house)", book.at(4, 0, 0, 0), UNKNOWN);
        due.is("at, UNKNOWN and OUTSIDE (extra)", book.at(4, 1, 26, 0), UNKNOWN);
        due.is("at, UNKNOWN and OUTSIDE (day)", book.at(-1, 1, 0, -1), UNKNOWN);
        due.is("near, UNKNOWN and OUTSIDE", book.near(4, 0), UNKNOWN);
        due.is("near, UNKNOWN, below, and OUTSIDE", book.near(-1, 1000), UNKNOWN);
        due.is("where, UNKNOWN and OUTSIDE (what)", book.where(1, 4, 0), UNKNOWN);
        due.is("where, UNKNOWN and OUTSIDE (day)", book.where(1, STREET, -1), UNKNOWN);
        due.is("where, OUTSIDE (what) and NONE", book.where(0, 4, 5), OUTSIDE);
        due.is("where, OUTSIDE (day) and NONE", book.where(0, HOUSE, -1), OUTSIDE);
    }
}

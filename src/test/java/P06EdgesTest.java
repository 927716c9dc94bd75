/** Promise 6, at its edges: what point() refuses, and the last that it does not. */
public final class P06EdgesTest extends Sentences {
    public static void main(String[] args) {
        fromTheDay();
        unknown();
        outside();
        stateOfTheRange();
        stateOfTheHouse();
        room();
        due.end();
    }

    private static void fromTheDay() {
        sentence("A live point more from THE DAY on: its number");
        for (int day : new int[] {0, 1, LAST_DAY}) {
            CountedBook book = withStreets(1);
            book.range(0, ALL, 1, 9, day);
            due.is("on day " + day, book.point(0, 4, 0), 0);
            due.is("THE DAY", book.count(THE_DAY), day);
            due.is("it lies there", book.at(0, 4, 0, day), 0);
            due.is("its house", book.where(0, HOUSE, day), 4);
            if (day > 0) {
                due.is("it did not the day before", book.at(0, 4, 0, day - 1), NONE);
                due.is("its house the day before", book.where(0, HOUSE, day - 1), NONE);
            }
        }
    }

    private static void unknown() {
        sentence("UNKNOWN, OUTSIDE (the house is not in the range; extra)");
        due.is("range 0 of an empty book", new CountedBook().point(0, 1, 0), UNKNOWN);
        for (int ranges : new int[] {1, 79, 80}) {
            due.is("range -1", withRanges(ranges).point(-1, 1, 0), UNKNOWN);
            due.is("range " + ranges, withRanges(ranges).point(ranges, 3 * ranges + 1, 0), UNKNOWN);
            due.is("the least range", withRanges(ranges).point(LEAST, 1, 0), UNKNOWN);
            due.is("the most range", withRanges(ranges).point(MOST, 1, 0), UNKNOWN);
            due.is("the last range", withRanges(ranges).point(ranges - 1, 3 * ranges - 1, 0), 0);
        }
    }

    private static void outside() {
        sentence("OUTSIDE (the house is not in the range; extra)");
        for (int house : new int[] {LEAST, -1, 0, 3, 8, 999, 1000, MOST}) {
            due.is("house " + house, withRange(ALL, 4, 7).point(0, house, 0), OUTSIDE);
        }
        for (int house = 4; house <= 7; house++) {
            due.is("house " + house, withRange(ALL, 4, 7).point(0, house, 0), 0);
            due.is("odd house " + house, withRange(ODD, 4, 7).point(0, house, 0), house % 2 == 1 ? 0 : OUTSIDE);
            due.is("even house " + house, withRange(EVEN, 4, 7).point(0, house, 0), house % 2 == 0 ? 0 : OUTSIDE);
        }
        due.is("extra -1", withRange(ALL, 4, 7).point(0, 4, -1), OUTSIDE);
        due.is("extra 0", withRange(ALL, 4, 7).point(0, 4, 0), 0);
        due.is("extra 25", withRange(ALL, 4, 7).point(0, 4, 25), 0);
        due.is("extra 26", withRange(ALL, 4, 7).point(0, 4, 26), OUTSIDE);
    }

    private static void stateOfTheRange() {
        sentence("STATE (the range is not live");
        CountedBook closed = withRange(ALL, 1, 20);
        closed.change(CLOSE, 0, 0, 0);
        due.is("a closed range", closed.point(0, 1, 0), STATE);
        CountedBook split = withRange(ALL, 1, 20);
        split.change(SPLIT, 0, 10, 0);
        due.is("a split range, a lower house", split.point(0, 9, 0), STATE);
        due.is("a split range, an upper house", split.point(0, 10, 0), STATE);
        due.is("its lower part", split.point(1, 9, 0), 0);
        due.is("its upper part", split.point(2, 10, 0), 1);
        CountedBook joined = withRange(ALL, 1, 20);
        joined.change(JOIN, 0, 1, 0);
        due.is("a range that went along with a join", joined.point(0, 1, 0), 0);
    }

    private static void stateOfTheHouse() {
        sentence("or there is a live one with house and extra)");
        CountedBook book = withPoint();
        due.is("the same house and extra", book.point(0, 3, 0), STATE);
        due.is("the same house, the next extra", book.point(0, 3, 1), 1);
        due.is("the next house, the same extra", book.point(0, 4, 0), 2);
        due.is("live points", book.count(LIVE_POINTS), 3);
        book.change(SPLIT, 0, 4, 1);
        due.is("in the lower part", book.point(1, 3, 0), STATE);
        due.is("in the upper part", book.point(2, 4, 0), STATE);
        book.change(JOIN, 0, 1, 2);
        due.is("after a join", book.point(1, 3, 1), STATE);
        book.change(RENUMBER, 0, 2, 3);
        due.is("at its new house", book.point(1, 2, 0), STATE);
        due.is("at its old house", book.point(1, 3, 0), 3);
        book.change(REMOVE, 1, 0, 4);
        due.is("where one was removed", book.point(1, 3, 1), 4);
        book.change(CLOSE, 1, 0, 5);
        book.range(1, ALL, 1, 3, 5);
        due.is("where one was closed", book.point(3, 2, 0), 5);
    }

    private static void room() {
        sentence("or there is a live one with house and extra), ROOM");
        CountedBook book = withPoints(120);
        due.is("a point more", book.point(0, 20, 0), ROOM);
        due.is("where one is", book.point(0, 5, 15), STATE);
        due.is("live points", book.count(LIVE_POINTS), 120);
        book.change(REMOVE, 0, 0, 1);
        due.is("in the place of a removed one", book.point(0, 1, 0), ROOM);
        due.is("live points", book.count(LIVE_POINTS), 119);
        CountedBook last = withPoints(119);
        last.change(REMOVE, 118, 0, 1);
        due.is("the last", last.point(0, 5, 14), 119);
        due.is("one more", last.point(0, 5, 16), ROOM);
    }
}

/** Promise 7, at its edges: what change() answers for none and for all points, and what it refuses. */
public final class P07EdgesTest extends Sentences {
    public static void main(String[] args) {
        howMany();
        dayThenHouse();
        stateOfRangesAndPoints();
        stateOfStreets();
        stateOfTheHouse();
        roomOfASplitAlone();
        overOfAJoinAlone();
        due.end();
    }

    private static void howMany() {
        sentence("how many points it closed (0, 4), gave to new ranges (1), moved (2, 3)");
        for (int points : new int[] {0, 1, 2, 119, 120}) {
            due.is("closed of " + points, withPoints(points).change(CLOSE, 0, 0, 0), points);
            due.is("given of " + points, withPoints(points).change(SPLIT, 0, 2, 0), points);
            due.is("moved with a join of " + points, withPoints(points).change(JOIN, 0, 1, 0), points);
            if (points > 0) {
                due.is("moved by a number of " + points, withPoints(points).change(RENUMBER, points - 1, 20, 0), 1);
                due.is("removed of " + points, withPoints(points).change(REMOVE, points - 1, 0, 0), 1);
            }
        }
        CountedBook book = withPoints(120);
        book.range(1, ALL, 21, 30, 0);
        for (int p = 0; p < 60; p++) {
            book.change(REMOVE, 2 * p, 0, 0);
        }
        due.is("given, half of them live", book.change(SPLIT, 0, 2, 0), 60);
        due.is("moved, half of them live", book.change(JOIN, 0, 1, 0), 60);
        due.is("closed, half of them live", book.change(CLOSE, 2, 0, 0), 13);
        due.is("closed, the other half", book.change(CLOSE, 3, 0, 0), 47);
    }

    private static void dayThenHouse() {
        sentence("OUTSIDE (day; then a house b that is not as said)");
        CountedBook book = withPoint();
        book.change(REMOVE, book.point(0, 9, 9), 0, 10);
        for (int kind = 0; kind <= 4; kind++) {
            int b = kind == JOIN ? 1 : 5;
            due.is("kind " + kind + ", the day before", book.change(kind, 0, b, 9), OUTSIDE);
            due.is("kind " + kind + ", the day after the last", book.change(kind, 0, b, LAST_DAY + 1), OUTSIDE);
        }
        due.is("split, day and house", book.change(SPLIT, 0, 1, 9), OUTSIDE);
        due.is("split, house", book.change(SPLIT, 0, 1, 10), OUTSIDE);
        due.is("renumber, day and house", book.change(RENUMBER, 0, 21, 9), OUTSIDE);
        due.is("renumber, house", book.change(RENUMBER, 0, 21, 10), OUTSIDE);
        due.is("THE DAY", book.count(THE_DAY), 10);
        due.is("live ranges and points", book.count(LIVE_RANGES) * 10 + book.count(LIVE_POINTS), 11);
    }

    private static void stateOfRangesAndPoints() {
        sentence("STATE (range or point is not live");
        CountedBook closed = withPoint();
        closed.change(CLOSE, 0, 0, 0);
        due.is("close of a closed range", closed.change(CLOSE, 0, 0, 0), STATE);
        due.is("split of a closed range", closed.change(SPLIT, 0, 5, 0), STATE);
        due.is("renumber of a closed point", closed.change(RENUMBER, 0, 5, 0), STATE);
        due.is("renumber of a closed point to its own house", closed.change(RENUMBER, 0, 3, 0), STATE);
        due.is("remove of a closed point", closed.change(REMOVE, 0, 0, 0), STATE);
        CountedBook split = withPoint();
        split.change(SPLIT, 0, 5, 0);
        due.is("close of a split range", split.change(CLOSE, 0, 0, 0), STATE);
        due.is("split of a split range", split.change(SPLIT, 0, 5, 0), STATE);
        due.is("renumber of a point of it", split.change(RENUMBER, 0, 4, 0), 1);
        due.is("remove of a point of it", split.change(REMOVE, 0, 0, 0), 1);
        due.is("renumber of a removed point", split.change(RENUMBER, 0, 4, 0), STATE);
        due.is("remove of a removed point", split.change(REMOVE, 0, 0, 0), STATE);
    }

    private static void stateOfStreets() {
        sentence("one of both streets has gone into another one, or they are one");
        CountedBook book = withStreets(6);
        book.alias(0, 1, 0);
        book.change(JOIN, 2, 3, 0);
        for (int gone : new int[] {0, 2}) {
            due.is("a = " + gone, book.change(JOIN, gone, 4, 0), STATE);
            due.is("b = " + gone, book.change(JOIN, 4, gone, 0), STATE);
            due.is("both = " + gone, book.change(JOIN, gone, gone, 0), STATE);
        }
        due.is("both have gone", book.change(JOIN, 0, 2, 0), STATE);
        due.is("into what it means already", book.change(JOIN, 0, 1, 0), STATE);
        due.is("what went into it goes nowhere", book.change(JOIN, 1, 0, 0), STATE);
        due.is("they are one", book.change(JOIN, 4, 4, 0), STATE);
        due.is("none of them has gone", book.change(JOIN, 1, 3, 0), 0);
        due.is("now it has", book.change(JOIN, 3, 1, 0), STATE);
        due.is("what it went into goes on", book.change(JOIN, 3, 5, 0), 0);
    }

    private static void stateOfTheHouse() {
        sentence("a live point is there already, also itself");
        CountedBook book = withPoint();
        book.point(0, 4, 0);
        book.point(0, 4, 1);
        due.is("another's house", book.change(RENUMBER, 0, 4, 0), STATE);
        due.is("its own house", book.change(RENUMBER, 0, 3, 0), STATE);
        due.is("its own house, the last extra", ownHouseOfTheLastExtra(), STATE);
        due.is("a house where only another extra is", book.change(RENUMBER, 2, 3, 0), 1);
        book.change(REMOVE, 1, 0, 0);
        due.is("a house where one was removed", book.change(RENUMBER, 0, 4, 0), 1);
        due.is("a house that one left", book.point(0, 3, 0), 3);
    }

    private static int ownHouseOfTheLastExtra() {
        CountedBook book = withRange(ALL, 1, 20);
        book.point(0, 20, 25);
        return book.change(RENUMBER, 0, 20, 0);
    }

    private static void roomOfASplitAlone() {
        sentence("ROOM (1)");
        due.is("a split of one of 78", withRanges(78).change(SPLIT, 77, 3 * 77 + 2, 0), 0);
        due.is("a split of one of 79", withRanges(79).change(SPLIT, 78, 3 * 78 + 2, 0), ROOM);
        due.is("a split of one of 80", withRanges(80).change(SPLIT, 79, 3 * 79 + 2, 0), ROOM);
        due.is("a close of one of 80", withRanges(80).change(CLOSE, 79, 0, 0), 0);
        due.is("a join with all 80", withRanges(80).change(JOIN, 0, 1, 0), 0);
        due.is("a renumber of one of 120", withPoints(120).change(RENUMBER, 119, 20, 0), 1);
        due.is("a remove of one of 120", withPoints(120).change(REMOVE, 119, 0, 0), 1);
    }

    private static void overOfAJoinAlone() {
        sentence("OVER (2: the least live range of b over one of a)");
        CountedBook book = withStreets(3);
        book.range(1, ALL, 1, 9, 0);
        book.range(0, ALL, 9, 19, 0);
        book.range(1, ALL, 19, 29, 0);
        due.is("0 into 1", book.change(JOIN, 0, 1, 0), OVER);
        due.is("1 into 0", book.change(JOIN, 1, 0, 0), OVER - 1);
        book.change(SPLIT, 0, 9, 0);
        due.is("0 into 1, the least is not the first told", book.change(JOIN, 0, 1, 0), OVER - 2);
        book.change(CLOSE, 2, 0, 0);
        due.is("0 into 1, a part of a split one", book.change(JOIN, 0, 1, 0), OVER - 4);
        book.change(CLOSE, 4, 0, 0);
        due.is("0 into 1, none is over", book.change(JOIN, 0, 1, 0), 0);
        due.is("houses of both", book.holes(1), 19);
    }
}

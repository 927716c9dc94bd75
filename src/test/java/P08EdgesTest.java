/** Promise 8, at its edges: what alias() refuses, and when it answers 0. */
public final class P08EdgesTest extends Sentences {
    public static void main(String[] args) {
        goes();
        answersNothing();
        answersNothingInARing();
        nothingChanges();
        unknownAndOutside();
        stateOfRanges();
        stateOfStreets();
        due.end();
    }

    private static void goes() {
        sentence("A street without live ranges goes into another one from a day on: 1");
        CountedBook book = withStreets(3);
        book.range(1, ALL, 1, 9, 0);
        book.point(0, 4, 0);
        due.is("alias", book.alias(0, 1, 10), 1);
        due.is("THE DAY", book.count(THE_DAY), 10);
        due.is("the day before", book.at(0, 4, 0, 9), NONE);
        due.is("on the day", book.at(0, 4, 0, 10), 0);
        due.is("an alias of an alias", book.alias(2, 0, 10), 1);
        due.is("what it means on the day", book.at(2, 4, 0, 10), 0);
        due.is("what it means the day before", book.at(2, 4, 0, 9), NONE);
        due.is("streets", book.count(STREETS), 3);
        due.is("between places", betweenPlaces(), 1);
    }

    private static int betweenPlaces() {
        CountedBook book = withPlaces(2);
        book.street(0, 0);
        book.street(1, 0);
        return book.alias(0, 1, 0);
    }

    private static void answersNothing() {
        sentence("0, and nothing changes (THE DAY neither): what the other one means is this street");
        for (int day : new int[] {0, 1, LAST_DAY}) {
            due.is("itself on day " + day, withStreets(1).alias(0, 0, day), 0);
        }
        CountedBook book = withStreets(3);
        book.alias(0, 1, 5);
        due.is("what went into it, on THE DAY", book.alias(1, 0, 5), 0);
        due.is("what went into it, later", book.alias(1, 0, 6), 0);
        due.is("THE DAY", book.count(THE_DAY), 5);
        due.is("one that means another", book.alias(1, 2, 6), 1);
        CountedBook joined = withStreets(2);
        joined.change(JOIN, 0, 1, 5);
        due.is("what was joined to it", joined.alias(1, 0, 6), 0);
        due.is("THE DAY", joined.count(THE_DAY), 5);
    }

    private static void answersNothingInARing() {
        sentence("what the other one means is this street");
        CountedBook book = withStreets(32);
        for (int s = 0; s < 31; s++) {
            book.alias(s, s + 1, s);
        }
        for (int s = 0; s < 32; s++) {
            due.is("the last into " + s, book.alias(31, s, 100), 0);
        }
        due.is("THE DAY", book.count(THE_DAY), 30);
        due.is("the last is as it was", book.range(31, ALL, 1, 9, 30), 0);
        due.is("the first means it", book.holes(0), 9);
    }

    private static void nothingChanges() {
        sentence("0, and nothing changes (THE DAY neither)");
        CountedBook book = withStreets(2);
        due.is("the answer 0", book.alias(0, 0, 50), 0);
        due.is("THE DAY", book.count(THE_DAY), 0);
        due.is("it goes into another on an earlier day", book.alias(0, 1, 40), 1);
        due.is("THE DAY then", book.count(THE_DAY), 40);
        due.is("the other one into it", book.alias(1, 0, LAST_DAY), 0);
        due.is("THE DAY", book.count(THE_DAY), 40);
        due.is("the other one gets a range", book.range(1, ALL, 1, 9, 41), 0);
        due.is("both mean it", book.holes(0) * 100 + book.holes(1), 909);
    }

    private static void unknownAndOutside() {
        sentence("UNKNOWN, OUTSIDE (day)");
        for (int n : new int[] {LEAST, -1, 2, 32, MOST}) {
            due.is("street " + n, withStreets(2).alias(n, 0, 0), UNKNOWN);
            due.is("other " + n, withStreets(2).alias(0, n, 0), UNKNOWN);
        }
        due.is("in an empty book", new CountedBook().alias(0, 0, 0), UNKNOWN);
        due.is("the last of 32", withStreets(32).alias(0, 31, 0), 1);
        due.is("of the last of 32", withStreets(32).alias(31, 0, 0), 1);
        due.is("into a 33rd", withStreets(32).alias(0, 32, 0), UNKNOWN);
        due.is("day -1", withStreets(2).alias(0, 1, -1), OUTSIDE);
        due.is("day 0", withStreets(2).alias(0, 1, 0), 1);
        due.is("day 1000000", withStreets(2).alias(0, 1, LAST_DAY), 1);
        due.is("day 1000001", withStreets(2).alias(0, 1, LAST_DAY + 1), OUTSIDE);
    }

    private static void stateOfRanges() {
        sentence("STATE (it has live ranges");
        CountedBook book = withRange(ALL, 1, 20);
        due.is("a live range", book.alias(0, 1, 0), STATE);
        book.change(SPLIT, 0, 10, 1);
        book.change(CLOSE, 1, 0, 1);
        due.is("a live part is left", book.alias(0, 1, 1), STATE);
        book.change(CLOSE, 2, 0, 1);
        due.is("the other one's live range does not matter", withLiveOther(), 1);
        due.is("all are closed", book.alias(0, 1, 1), 1);
        CountedBook joined = withRange(ALL, 1, 20);
        joined.change(JOIN, 0, 1, 0);
        due.is("a live range that came with a join", joined.alias(1, 2, 0), STATE);
        CountedBook removed = withPoint();
        removed.change(REMOVE, 0, 0, 0);
        due.is("a live range without points", removed.alias(0, 1, 0), STATE);
    }

    private static int withLiveOther() {
        return withRange(ALL, 1, 20).alias(1, 0, 0);
    }

    private static void stateOfStreets() {
        sentence("STATE (it has live ranges, or has gone into one)");
        CountedBook book = withStreets(5);
        book.alias(0, 1, 5);
        book.change(JOIN, 2, 3, 5);
        for (int other = 0; other < 5; other++) {
            due.is("an alias into " + other, book.alias(0, other, 5), STATE);
            due.is("a joined one into " + other, book.alias(2, other, 5), STATE);
        }
        due.is("into one that has gone", book.alias(4, 0, 5), 1);
        due.is("one that others went into", book.alias(1, 3, 5), 1);
    }
}

/** What it is: an object answers rightly up to its 512th call, whatever the calls before it were. */
public final class CallsLimitTest extends Sentences {
    public static void main(String[] args) {
        sentence("An object is used for at most 512 calls after it has been made");
        allTellANewHouse();
        theLastTellsANewHouse();
        theLastTells();
        allAreRefused();
        allAsk();
        twoObjects();
        due.end();
    }

    /** Four calls have been made on it. */
    private static CountedBook withOnePoint() {
        CountedBook book = new CountedBook();
        book.place(1, 1);
        book.street(0, 1);
        book.range(0, ALL, 1, 999, 0);
        book.point(0, 1, 0);
        return book;
    }

    private static int moveTill(CountedBook book, int callsLeft) {
        int moves = 0;
        while (book.callsLeft() > callsLeft) {
            moves++;
            due.is("move " + moves, book.change(RENUMBER, 0, 1 + moves, moves), 1);
        }
        return moves;
    }

    private static void allTellANewHouse() {
        CountedBook now = withOnePoint();
        int moves = moveTill(now, 1);
        due.is("its house by the 512th call", now.at(0, 1 + moves, 0, moves), 0);
        CountedBook first = withOnePoint();
        moveTill(first, 2);
        due.is("its first house by the 511th call", first.where(0, HOUSE, 0), 1);
        due.is("its first house by the 512th call", first.at(0, 1, 0, 1 + 179), 0);
        CountedBook last = withOnePoint();
        moveTill(last, 1);
        due.is("the day by the 512th call", last.count(THE_DAY), moves);
    }

    private static void theLastTellsANewHouse() {
        CountedBook book = withOnePoint();
        int moves = moveTill(book, 0);
        due.is("moves", moves, 508);
        CountedBook point = withOnePoint();
        moveTill(point, 1);
        due.is("a point by the 512th call", point.point(0, 999, 0), 1);
    }

    private static void theLastTells() {
        due.is("place", askedTillTheLast().place(2, 0), 1);
        due.is("street", askedTillTheLast().street(0, 2), 1);
        due.is("find", askedTillTheLast().find(1, 1), 0);
        due.is("range", askedTillTheLast().range(0, ALL, 1, 1, LAST_DAY), OVER);
        due.is("point", askedTillTheLast().point(0, 999, 25), 1);
        due.is("close", askedTillTheLast().change(CLOSE, 0, 0, LAST_DAY), 1);
        due.is("split", askedTillTheLast().change(SPLIT, 0, 999, LAST_DAY), 1);
        due.is("join", askedTillTheLast().change(JOIN, 0, 0, LAST_DAY), STATE);
        due.is("renumber", askedTillTheLast().change(RENUMBER, 0, 999, LAST_DAY), 1);
        due.is("remove", askedTillTheLast().change(REMOVE, 0, 0, LAST_DAY), 1);
        due.is("alias", askedTillTheLast().alias(0, 0, LAST_DAY), STATE);
        due.is("at", askedTillTheLast().at(0, 1, 0, LAST_DAY), 0);
        due.is("near", askedTillTheLast().near(0, 999), 0);
        due.is("order", askedTillTheLast().order(0), 0);
        due.is("holes", askedTillTheLast().holes(0), 998);
        due.is("where", askedTillTheLast().where(0, HOUSE, LAST_DAY), 1);
        due.is("count", askedTillTheLast().count(LIVE_POINTS), 1);
    }

    private static CountedBook askedTillTheLast() {
        CountedBook book = withOnePoint();
        while (book.callsLeft() > 1) {
            book.holes(0);
        }
        return book;
    }

    private static void allAreRefused() {
        CountedBook book = withOnePoint();
        while (book.callsLeft() > 12) {
            book.place(1, 0);
            book.street(0, 1);
            book.range(0, ALL, 5, 6, 9);
            book.point(0, 1, 0);
            book.change(RENUMBER, 0, 1, 9);
            book.alias(0, 0, 9);
        }
        due.is("places", book.count(PLACES), 1);
        due.is("streets", book.count(STREETS), 1);
        due.is("live ranges", book.count(LIVE_RANGES), 1);
        due.is("live points", book.count(LIVE_POINTS), 1);
        due.is("THE DAY", book.count(THE_DAY), 0);
        due.is("the next point", book.point(0, 2, 0), 1);
    }

    private static void allAsk() {
        CountedBook book = withOnePoint();
        while (book.callsLeft() > 0) {
            due.is("near", book.near(0, 500), 0);
        }
    }

    private static void twoObjects() {
        CountedBook one = withOnePoint();
        CountedBook other = withOnePoint();
        int moves = 0;
        while (one.callsLeft() > 1) {
            moves++;
            due.is("move of the one", one.change(RENUMBER, 0, 1 + moves, moves), 1);
            due.is("move of the other", other.change(RENUMBER, 0, 999 - moves, moves), 1);
        }
        due.is("the one's 512th call", one.where(0, HOUSE, LAST_DAY), 1 + moves);
        due.is("the other's 512th call", other.where(0, HOUSE, LAST_DAY), 999 - moves);
    }
}

/** Promise 11, at its edges: the first and the last of the round, houses with several points. */
public final class P11EdgesTest extends Sentences {
    public static void main(String[] args) {
        unknown();
        notLive();
        alone();
        round();
        severalAtAHouse();
        ofItsStreet();
        inAFullBook();
        due.end();
    }

    private static void unknown() {
        sentence("UNKNOWN, STATE (it is not live)");
        due.is("in an empty book", new CountedBook().order(0), UNKNOWN);
        for (int point : new int[] {LEAST, -1, 1, 120, MOST}) {
            due.is("point " + point, withPoint().order(point), UNKNOWN);
        }
        due.is("the last of 120", withPoints(120).order(119) >= 0 ? 1 : 0, 1);
        due.is("a 121st", withPoints(120).order(120), UNKNOWN);
    }

    private static void notLive() {
        sentence("STATE (it is not live)");
        CountedBook removed = withPoint();
        removed.change(REMOVE, 0, 0, 0);
        due.is("a removed one", removed.order(0), STATE);
        CountedBook closed = withPoint();
        closed.change(CLOSE, 0, 0, 0);
        due.is("a closed one", closed.order(0), STATE);
        CountedBook split = withPoint();
        split.change(SPLIT, 0, 3, 0);
        due.is("one of a split range", split.order(0), 0);
    }

    private static void alone() {
        sentence("How many live points of its street come before a live point on the ROUND");
        for (int house : new int[] {1, 2, 998, 999}) {
            CountedBook book = withRange(ALL, 1, 999);
            book.point(0, house, 25);
            due.is("the only one, at " + house, book.order(0), 0);
        }
    }

    private static void round() {
        sentence("odd houses upward, then even ones downward");
        CountedBook book = withRange(ALL, 1, 999);
        int[] houses = {2, 1, 998, 999, 500, 501, 4, 3, 996, 997};
        int[] before = {9, 0, 5, 4, 7, 2, 8, 1, 6, 3};
        for (int house : houses) {
            book.point(0, house, 0);
        }
        for (int p = 0; p < houses.length; p++) {
            due.is("house " + houses[p], book.order(p), before[p]);
        }
        book.change(REMOVE, 1, 0, 0);
        for (int p = 0; p < houses.length; p++) {
            due.is("house " + houses[p] + " when 1 is removed", book.order(p), p == 1 ? STATE : before[p] - 1);
        }
        book.change(RENUMBER, 0, 1, 0);
        due.is("2 becomes 1", book.order(0), 0);
        due.is("998 then", book.order(2), 5);
    }

    private static void severalAtAHouse() {
        sentence("at a house by extras");
        CountedBook book = withRange(ALL, 1, 20);
        int[] houses = {4, 3, 4, 3, 4, 3, 5, 2};
        int[] extras = {25, 25, 0, 0, 1, 1, 0, 0};
        int[] before = {6, 2, 4, 0, 5, 1, 3, 7};
        for (int p = 0; p < houses.length; p++) {
            book.point(0, houses[p], extras[p]);
        }
        for (int p = 0; p < houses.length; p++) {
            due.is("house " + houses[p] + ", extra " + extras[p], book.order(p), before[p]);
        }
    }

    private static void ofItsStreet() {
        sentence("How many live points of its street");
        CountedBook book = withPoint();
        book.range(0, ALL, 21, 30, 0);
        book.range(1, ALL, 31, 40, 0);
        book.point(1, 21, 0);
        book.point(2, 31, 0);
        book.point(2, 33, 0);
        due.is("another range of the street", book.order(1), 1);
        due.is("another street", book.order(2), 0);
        due.is("another street", book.order(3), 1);
        book.change(JOIN, 0, 1, 1);
        due.is("both streets joined", book.order(2), 2);
        due.is("both streets joined", book.order(3), 3);
        due.is("both streets joined, the first", book.order(0), 0);
        book.change(CLOSE, 0, 0, 2);
        due.is("a range of them closed", book.order(2), 1);
    }

    private static void inAFullBook() {
        sentence("How many live points of its street come before a live point on the ROUND");
        CountedBook book = withPoints(120);
        int[] beforeHouse = {0, 94, 26, 68, 52};
        for (int p = 0; p < 120; p++) {
            due.is("point " + p, book.order(p), beforeHouse[p / 26] + p % 26);
        }
    }
}

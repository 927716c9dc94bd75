/** Promise 13: where. */
public final class P13WhereTest extends Sentences {
    public static void main(String[] args) {
        CountedBook book = withRange(ALL, 1, 20);
        book.range(1, 0, 30, 40, 10);
        book.point(0, 3, 7);
        book.change(3, 0, 5, 20);
        book.change(3, 0, 6, 20);
        book.change(1, 0, 6, 25);
        book.change(2, 0, 1, 30);
        book.change(2, 1, 2, 40);
        book.change(4, 0, 0, 50);
        wrongNumbers(book);
        int[] days = {0, 9, 10, 19, 20, 29, 30, 39, 40, 49, 50, 1000000};
        int[] streets = {-1, -1, 0, 0, 0, 0, 1, 1, 2, 2, -1, -1};
        int[] houses = {-1, -1, 3, 3, 6, 6, 6, 6, 6, 6, -1, -1};
        for (int i = 0; i < days.length; i++) {
            due.is("street on day " + days[i], book.where(0, 0, days[i]), streets[i]);
            due.is("house on day " + days[i], book.where(0, 1, days[i]), houses[i]);
            due.is("extra on day " + days[i], book.where(0, 2, days[i]), 7);
            due.is("range on day " + days[i], book.where(0, 3, days[i]), 3);
        }
        due.is("THE DAY", book.count(4), 50);
        liveAndClosed();
        due.end();
    }

    private static void wrongNumbers(CountedBook book) {
        due.is("point -1", book.where(-1, 0, 0), UNKNOWN);
        due.is("point 1, UNKNOWN before OUTSIDE", book.where(1, 4, -1), UNKNOWN);
        due.is("what -1", book.where(0, -1, 10), OUTSIDE);
        due.is("what 4", book.where(0, 4, 10), OUTSIDE);
        for (int what = 0; what <= 3; what++) {
            due.is("day -1, what " + what, book.where(0, what, -1), OUTSIDE);
            due.is("day 1000001, what " + what, book.where(0, what, 1000001), OUTSIDE);
        }
    }

    private static void liveAndClosed() {
        CountedBook book = withRange(ALL, 1, 20);
        book.range(2, 0, 1, 9, 5);
        book.point(0, 3, 0);
        book.point(1, 4, 0);
        due.is("a live one on the last day", book.where(0, 0, 1000000), 0);
        due.is("its house on the last day", book.where(0, 1, 1000000), 3);
        book.change(0, 1, 0, 8);
        due.is("a closed one the day before", book.where(1, 0, 7), 2);
        due.is("a closed one", book.where(1, 0, 8), NONE);
        due.is("its range", book.where(1, 3, 8), 1);
        book.change(4, 0, 0, 9);
        book.change(1, 0, 10, 9);
        due.is("removed before the split", book.where(0, 3, 9), 0);
    }
}

/** Promise 14, at its edges: what count() counts in an empty and in a full book, and what it does not know. */
public final class P14EdgesTest extends Sentences {
    public static void main(String[] args) {
        outside();
        emptyAndFull();
        liveOnesAlone();
        theDay();
        due.end();
    }

    private static void outside() {
        sentence("THE DAY (4). OUTSIDE");
        for (int what : new int[] {LEAST, -1, 5, MOST}) {
            due.is("count(" + what + ") of an empty book", new CountedBook().count(what), OUTSIDE);
            due.is("count(" + what + ")", withPoint().count(what), OUTSIDE);
        }
    }

    private static void emptyAndFull() {
        sentence("How many places there are (what = 0), streets (1), live ranges (2), live points (3)");
        counts("an empty book", new CountedBook(), 0, 0, 0, 0, 0);
        CountedBook full = withPlaces(16);
        for (int s = 0; s < 32; s++) {
            full.street(s % 16, s / 16);
            counts("with streets", full, 16, s + 1, 0, 0, 0);
        }
        for (int r = 0; r < 80; r++) {
            full.range(0, ALL, 2 * r + 1, 2 * r + 2, LAST_DAY);
        }
        counts("with ranges", full, 16, 32, 80, 0, LAST_DAY);
        for (int p = 0; p < 120; p++) {
            full.point(p / 2, p + 1, 0);
        }
        counts("a full book", full, 16, 32, 80, 120, LAST_DAY);
    }

    private static void liveOnesAlone() {
        sentence("live ranges (2), live points (3)");
        CountedBook book = withPoint();
        book.point(0, 10, 0);
        counts("two points", book, 1, 4, 1, 2, 0);
        book.change(SPLIT, 0, 10, 0);
        counts("after a split", book, 1, 4, 2, 2, 0);
        book.change(JOIN, 0, 1, 0);
        counts("after a join", book, 1, 4, 2, 2, 0);
        book.alias(2, 0, 0);
        counts("after an alias", book, 1, 4, 2, 2, 0);
        book.change(RENUMBER, 0, 4, 0);
        counts("after a new number", book, 1, 4, 2, 2, 0);
        book.change(REMOVE, 0, 0, 0);
        counts("after a removal", book, 1, 4, 2, 1, 0);
        book.change(CLOSE, 2, 0, 0);
        counts("after a closing", book, 1, 4, 1, 0, 0);
        book.change(CLOSE, 1, 0, 0);
        counts("all closed", book, 1, 4, 0, 0, 0);
    }

    private static void theDay() {
        sentence("THE DAY (4)");
        CountedBook book = withStreets(2);
        int[] days = {0, 1, 1, 179, LAST_DAY - 1, LAST_DAY, LAST_DAY};
        for (int i = 0; i < days.length; i++) {
            book.range(0, ALL, 1 + i, 1 + i, days[i]);
            due.is("told on day " + days[i], book.count(THE_DAY), days[i]);
        }
    }

    private static void counts(String name, CountedBook book, int... want) {
        for (int what = 0; what < want.length; what++) {
            due.is("count(" + what + "), " + name, book.count(what), want[what]);
        }
    }
}

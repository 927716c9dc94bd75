/** Promise 13, at its edges: days on which a point did not lie anywhere, and the first and last on which it did. */
public final class P13EdgesTest extends Sentences {
    public static void main(String[] args) {
        unknown();
        outside();
        beforeItCame();
        afterItEnded();
        neverAnywhere();
        firstAndLastDay();
        extraAndRangeOnAnyDay();
        rangeAsItIsNow();
        manyHouses();
        due.end();
    }

    private static void unknown() {
        sentence("UNKNOWN, OUTSIDE");
        due.is("in an empty book", new CountedBook().where(0, STREET, 0), UNKNOWN);
        for (int what = 0; what <= 3; what++) {
            for (int point : new int[] {LEAST, -1, 1, 120, MOST}) {
                due.is("point " + point + ", what " + what, withPoint().where(point, what, 0), UNKNOWN);
            }
        }
        due.is("the last of 120", withPoints(120).where(119, EXTRA, 0), 15);
        due.is("a 121st", withPoints(120).where(120, EXTRA, 0), UNKNOWN);
    }

    private static void outside() {
        sentence("UNKNOWN, OUTSIDE");
        for (int what : new int[] {LEAST, -1, 4, MOST}) {
            due.is("what " + what, withPoint().where(0, what, 0), OUTSIDE);
        }
        for (int what = 0; what <= 3; what++) {
            for (int day : new int[] {LEAST, -1, LAST_DAY + 1, MOST}) {
                due.is("what " + what + ", day " + day, withPoint().where(0, what, day), OUTSIDE);
            }
        }
        int[] answers = {0, 3, 0, 0};
        for (int what = 0; what <= 3; what++) {
            due.is("what " + what + ", day 0", withPoint().where(0, what, 0), answers[what]);
            due.is("what " + what + ", the last day", withPoint().where(0, what, LAST_DAY), answers[what]);
        }
    }

    private static void beforeItCame() {
        sentence("NONE when it did not lie anywhere then");
        CountedBook book = withStreets(2);
        book.range(1, ALL, 1, 20, 50);
        book.point(0, 7, 9);
        for (int day : new int[] {0, 1, 48, 49}) {
            due.is("street on day " + day, book.where(0, STREET, day), NONE);
            due.is("house on day " + day, book.where(0, HOUSE, day), NONE);
        }
        for (int day : new int[] {50, 51, LAST_DAY}) {
            due.is("street on day " + day, book.where(0, STREET, day), 1);
            due.is("house on day " + day, book.where(0, HOUSE, day), 7);
        }
    }

    private static void afterItEnded() {
        sentence("NONE when it did not lie anywhere then");
        for (int kind : new int[] {CLOSE, REMOVE}) {
            CountedBook book = withPoint();
            book.change(kind, 0, 0, 50);
            due.is("street the day before, kind " + kind, book.where(0, STREET, 49), 0);
            due.is("house the day before, kind " + kind, book.where(0, HOUSE, 49), 3);
            for (int day : new int[] {50, 51, LAST_DAY}) {
                due.is("street on day " + day + ", kind " + kind, book.where(0, STREET, day), NONE);
                due.is("house on day " + day + ", kind " + kind, book.where(0, HOUSE, day), NONE);
            }
        }
    }

    private static void neverAnywhere() {
        sentence("NONE when it did not lie anywhere then");
        for (int kind : new int[] {CLOSE, REMOVE}) {
            CountedBook book = withPoint();
            book.change(kind, 0, 0, 0);
            for (int day : new int[] {0, 1, LAST_DAY}) {
                due.is("street on day " + day + ", kind " + kind, book.where(0, STREET, day), NONE);
                due.is("house on day " + day + ", kind " + kind, book.where(0, HOUSE, day), NONE);
            }
            due.is("its extra, kind " + kind, book.where(0, EXTRA, 0), 0);
            due.is("its range, kind " + kind, book.where(0, RANGE, 0), 0);
        }
    }

    private static void firstAndLastDay() {
        sentence("Of a point on a day: its street (what = 0), house (1)");
        CountedBook book = withPoint();
        book.change(RENUMBER, 0, 4, LAST_DAY);
        book.change(JOIN, 0, 2, LAST_DAY);
        due.is("house on day 0", book.where(0, HOUSE, 0), 3);
        due.is("house the day before the last", book.where(0, HOUSE, LAST_DAY - 1), 3);
        due.is("house on the last day", book.where(0, HOUSE, LAST_DAY), 4);
        due.is("street on day 0", book.where(0, STREET, 0), 0);
        due.is("street the day before the last", book.where(0, STREET, LAST_DAY - 1), 0);
        due.is("street on the last day", book.where(0, STREET, LAST_DAY), 2);
        book.change(REMOVE, 0, 0, LAST_DAY);
        due.is("removed on the last day", book.where(0, HOUSE, LAST_DAY), NONE);
        due.is("removed on the last day, the day before", book.where(0, HOUSE, LAST_DAY - 1), 3);
    }

    private static void extraAndRangeOnAnyDay() {
        sentence("its extra (2), its range as it is now (3)");
        CountedBook book = withRange(ALL, 1, 20);
        book.range(1, ALL, 1, 20, 50);
        book.point(1, 7, 25);
        book.change(REMOVE, 0, 0, 60);
        for (int day : new int[] {0, 49, 50, 59, 60, LAST_DAY}) {
            due.is("extra on day " + day, book.where(0, EXTRA, day), 25);
            due.is("range on day " + day, book.where(0, RANGE, day), 1);
        }
    }

    private static void rangeAsItIsNow() {
        sentence("its range as it is now (3)");
        CountedBook book = withPoint();
        book.point(0, 10, 0);
        book.point(0, 11, 0);
        book.change(REMOVE, 2, 0, 5);
        book.change(SPLIT, 0, 10, 10);
        for (int day : new int[] {0, 9, 10, LAST_DAY}) {
            due.is("of the lower part, day " + day, book.where(0, RANGE, day), 1);
            due.is("of the upper part, day " + day, book.where(1, RANGE, day), 2);
            due.is("removed before the split, day " + day, book.where(2, RANGE, day), 0);
        }
        book.change(SPLIT, 1, 3, 20);
        due.is("split again", book.where(0, RANGE, 0), 4);
        book.change(JOIN, 0, 1, 30);
        due.is("joined", book.where(0, RANGE, 0), 4);
        book.change(CLOSE, 4, 0, 40);
        due.is("closed", book.where(0, RANGE, 0), 4);
        due.is("the other one", book.where(1, RANGE, 0), 2);
    }

    private static void manyHouses() {
        sentence("house (1); NONE when it did not lie anywhere then");
        CountedBook book = withRange(ALL, 1, 999);
        book.point(0, 1, 0);
        for (int move = 1; move <= 200; move++) {
            book.change(RENUMBER, 0, 1 + move, 2 * move);
        }
        for (int day = 0; day <= 200; day++) {
            due.is("house on day " + 2 * day, book.where(0, HOUSE, 2 * day), 1 + day);
        }
        due.is("house on day 1", book.where(0, HOUSE, 1), 1);
        due.is("house on day 399", book.where(0, HOUSE, 399), 200);
        due.is("house on day 401", book.where(0, HOUSE, 401), 201);
    }
}

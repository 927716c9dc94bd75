/** Terms: streets that go into others, and what a street means on a day. */
public final class T06MeaningsTest extends Sentences {
    public static void main(String[] args) {
        noLiveRangesFromThenOn();
        itselfTillTheDay();
        intoOneThatGoesLater();
        intoOneThatHasGone();
        allOnOneDay();
        longestChains();
        onTheFirstAndLastDay();
        due.end();
    }

    private static void noLiveRangesFromThenOn() {
        sentence("it has no live ranges from then on");
        CountedBook alias = withStreets(3);
        alias.alias(0, 1, 5);
        due.is("a range of an alias on the day", alias.range(0, ALL, 1, 9, 5), STATE);
        due.is("a range of an alias later", alias.range(0, ALL, 1, 9, LAST_DAY), STATE);
        due.is("THE DAY", alias.count(THE_DAY), 5);
        due.is("a range of what it went into", alias.range(1, ALL, 1, 9, 5), 0);
        CountedBook join = withPoint();
        join.change(JOIN, 0, 1, 5);
        due.is("a range of a joined one on the day", join.range(0, ALL, 30, 39, 5), STATE);
        due.is("a range of a joined one later", join.range(0, ALL, 30, 39, LAST_DAY), STATE);
        due.is("its range is the other's", join.range(1, ALL, 20, 29, 5), OVER);
        due.is("nothing goes into it any more by a join", join.change(JOIN, 2, 0, 5), STATE);
        due.is("it goes into nothing else by a join", join.change(JOIN, 0, 2, 5), STATE);
        due.is("it goes into nothing else by an alias", join.alias(0, 2, 5), STATE);
        due.is("an alias goes into it", join.alias(2, 0, 5), 1);
        due.is("what that one means", join.holes(2), 19);
    }

    private static void itselfTillTheDay() {
        sentence("A street MEANS on a day: itself, or, if it has gone into another one up to that day");
        CountedBook book = withStreets(3);
        book.range(1, ALL, 1, 9, 0);
        book.point(0, 4, 0);
        due.is("itself, never gone", book.at(0, 4, 0, 10), NONE);
        book.alias(0, 1, 10);
        due.is("the day before", book.at(0, 4, 0, 9), NONE);
        due.is("on the day", book.at(0, 4, 0, 10), 0);
        due.is("the day after", book.at(0, 4, 0, 11), 0);
        due.is("on the last day", book.at(0, 4, 0, LAST_DAY), 0);
        due.is("the other one means itself", book.at(1, 4, 0, 9), 0);
        due.is("a third one means itself", book.at(2, 4, 0, 10), NONE);
        due.is("near", book.near(0, 1), 0);
        due.is("holes", book.holes(0), 8);
    }

    private static void intoOneThatGoesLater() {
        sentence("what that one means");
        CountedBook book = withStreets(4);
        book.range(3, ALL, 1, 9, 0);
        book.range(1, ALL, 11, 19, 0);
        book.point(0, 4, 0);
        book.point(1, 14, 0);
        book.alias(0, 1, 10);
        book.change(JOIN, 1, 2, 20);
        book.change(JOIN, 2, 3, 30);
        means(book, 0, new int[] {9, 10, 19, 20, 29, 30}, new int[] {NONE, 1, 1, 1, 1, 1}, 14);
        means(book, 0, new int[] {9, 10, 19, 20, 29, 30}, new int[] {NONE, NONE, NONE, NONE, NONE, 0}, 4);
        means(book, 1, new int[] {9, 19, 20, 29, 30}, new int[] {1, 1, 1, 1, 1}, 14);
        means(book, 2, new int[] {9, 19, 20, 29, 30}, new int[] {NONE, NONE, 1, 1, 1}, 14);
        means(book, 3, new int[] {9, 19, 20, 29, 30}, new int[] {NONE, NONE, NONE, NONE, 1}, 14);
    }

    private static void intoOneThatHasGone() {
        sentence("what that one means");
        CountedBook book = withStreets(4);
        book.range(2, ALL, 1, 9, 0);
        book.point(0, 4, 0);
        book.alias(1, 2, 10);
        due.is("into one that has gone", book.alias(0, 1, 20), 1);
        means(book, 1, new int[] {9, 10, 19, 20}, new int[] {NONE, 0, 0, 0}, 4);
        means(book, 0, new int[] {9, 10, 19, 20}, new int[] {NONE, NONE, NONE, 0}, 4);
        book.change(JOIN, 2, 3, 30);
        means(book, 0, new int[] {19, 20, 29, 30, LAST_DAY}, new int[] {NONE, 0, 0, 0, 0}, 4);
        means(book, 3, new int[] {19, 20, 29, 30, LAST_DAY}, new int[] {NONE, NONE, NONE, 0, 0}, 4);
    }

    private static void allOnOneDay() {
        sentence("if it has gone into another one up to that day, what that one means");
        CountedBook book = withStreets(4);
        book.range(0, ALL, 1, 9, 0);
        book.point(0, 4, 0);
        book.change(JOIN, 0, 1, 10);
        book.change(JOIN, 1, 2, 10);
        book.change(JOIN, 2, 3, 10);
        for (int s = 0; s < 4; s++) {
            means(book, s, new int[] {9, 10}, new int[] {s == 0 ? 0 : NONE, 0}, 4);
            due.is("near by street " + s, book.near(s, 1), 0);
            due.is("holes by street " + s, book.holes(s), 8);
        }
        due.is("the street on the day before", book.where(0, STREET, 9), 0);
        due.is("the street on the day", book.where(0, STREET, 10), 3);
    }

    private static void longestChains() {
        sentence("if it has gone into another one up to that day, what that one means");
        CountedBook forth = withStreets(32);
        forth.range(31, ALL, 1, 9, 0);
        forth.point(0, 4, 0);
        for (int s = 0; s < 31; s++) {
            due.is(s + " into the next", forth.alias(s, s + 1, 1 + s), 1);
        }
        means(forth, 0, new int[] {0, 30, 31, LAST_DAY}, new int[] {NONE, NONE, 0, 0}, 4);
        means(forth, 30, new int[] {30, 31}, new int[] {NONE, 0}, 4);
        due.is("near by the first", forth.near(0, 9), 0);
        due.is("holes by the first", forth.holes(0), 8);
        CountedBook joins = withStreets(32);
        joins.range(0, ALL, 1, 9, 0);
        joins.point(0, 4, 0);
        for (int s = 0; s < 31; s++) {
            due.is(s + " into the next", joins.change(JOIN, s, s + 1, 1 + s), 1);
        }
        for (int day = 0; day <= 31; day++) {
            due.is("its street on day " + day, joins.where(0, STREET, day), day);
            due.is("by its first street on day " + day, joins.at(0, 4, 0, day), 0);
            due.is("by its last street on day " + day, joins.at(31, 4, 0, day), day == 31 ? 0 : NONE);
        }
        due.is("holes by the first", joins.holes(0), 8);
        due.is("on the round", joins.order(0), 0);
    }

    private static void onTheFirstAndLastDay() {
        sentence("A street may GO INTO another one from a day on");
        CountedBook first = withStreets(2);
        first.range(1, ALL, 1, 9, 0);
        first.point(0, 4, 0);
        first.alias(0, 1, 0);
        means(first, 0, new int[] {0, 1, LAST_DAY}, new int[] {0, 0, 0}, 4);
        CountedBook last = withStreets(2);
        last.range(1, ALL, 1, 9, 0);
        last.point(0, 4, 0);
        last.alias(0, 1, LAST_DAY);
        means(last, 0, new int[] {0, LAST_DAY - 1, LAST_DAY}, new int[] {NONE, NONE, 0}, 4);
    }

    private static void means(CountedBook book, int street, int[] days, int[] points, int house) {
        for (int i = 0; i < days.length; i++) {
            due.is("at(" + street + ", " + house + ", 0, " + days[i] + ")", book.at(street, house, 0, days[i]),
                    points[i]);
        }
    }
}

/** Terms: THE DAY, and from and till which day something holds. */
public final class T04DaysTest extends Sentences {
    /** A call that has a day, on a book as made by bookOfDay. */
    private interface Telling {
        int tell(CountedBook book, int day);
    }

    private static final String[] NAMES = {"range", "close", "split", "join", "renumber", "remove", "alias"};
    private static final Telling[] TELLINGS = {
        (book, day) -> book.range(0, ALL, 31, 40, day),
        (book, day) -> book.change(CLOSE, 0, 0, day),
        (book, day) -> book.change(SPLIT, 0, 10, day),
        (book, day) -> book.change(JOIN, 0, 1, day),
        (book, day) -> book.change(RENUMBER, 0, 5, day),
        (book, day) -> book.change(REMOVE, 0, 0, day),
        (book, day) -> book.alias(2, 0, day),
    };
    private static final int[] ANSWERS = {2, 1, 1, 1, 1, 1, 1};

    public static void main(String[] args) {
        atFirst();
        theDayOrALaterOne();
        upToTheLastDay();
        onTheLastDay();
        whatHasNoDay();
        askingAtAnyDay();
        holdsFromItsDay();
        holdsTillTheDay();
        severalOnOneDay();
        due.end();
    }

    /** Range 0 (houses 1 to 20) with point 0 (house 3) of street 0; THE DAY is told by range 1 of street 3. */
    private static CountedBook bookOfDay(int day) {
        CountedBook book = withPoint();
        book.range(3, ALL, 1, 2, day);
        return book;
    }

    private static void atFirst() {
        sentence("THE DAY is 0 at first");
        due.is("THE DAY", new CountedBook().count(THE_DAY), 0);
        for (int t = 0; t < TELLINGS.length; t++) {
            CountedBook book = bookOfDay(0);
            due.is(NAMES[t] + " on day -1", TELLINGS[t].tell(book, -1), OUTSIDE);
            due.is("THE DAY", book.count(THE_DAY), 0);
            due.is(NAMES[t] + " on day 0", TELLINGS[t].tell(book, 0), ANSWERS[t]);
            due.is("THE DAY", book.count(THE_DAY), 0);
        }
    }

    private static void theDayOrALaterOne() {
        sentence("What has a day is told with THE DAY or a later one");
        for (int t = 0; t < TELLINGS.length; t++) {
            CountedBook book = bookOfDay(50);
            due.is(NAMES[t] + " on the day before", TELLINGS[t].tell(book, 49), OUTSIDE);
            due.is(NAMES[t] + " on day 0", TELLINGS[t].tell(book, 0), OUTSIDE);
            due.is(NAMES[t] + " on the least day", TELLINGS[t].tell(book, LEAST), OUTSIDE);
            due.is("THE DAY", book.count(THE_DAY), 50);
            due.is(NAMES[t] + " on THE DAY", TELLINGS[t].tell(book, 50), ANSWERS[t]);
            due.is("THE DAY", book.count(THE_DAY), 50);
            CountedBook later = bookOfDay(50);
            due.is(NAMES[t] + " on the next day", TELLINGS[t].tell(later, 51), ANSWERS[t]);
            due.is("THE DAY then", later.count(THE_DAY), 51);
            due.is("a range on the day that was THE DAY", later.range(3, ALL, 3, 4, 50), OUTSIDE);
        }
    }

    private static void upToTheLastDay() {
        sentence("(up to 1000000), which is THE DAY then");
        for (int t = 0; t < TELLINGS.length; t++) {
            CountedBook book = bookOfDay(50);
            due.is(NAMES[t] + " on day 1000001", TELLINGS[t].tell(book, LAST_DAY + 1), OUTSIDE);
            due.is(NAMES[t] + " on the most day", TELLINGS[t].tell(book, MOST), OUTSIDE);
            due.is("THE DAY", book.count(THE_DAY), 50);
            due.is(NAMES[t] + " on day 1000000", TELLINGS[t].tell(book, LAST_DAY), ANSWERS[t]);
            due.is("THE DAY then", book.count(THE_DAY), LAST_DAY);
        }
    }

    private static void onTheLastDay() {
        sentence("(up to 1000000), which is THE DAY then");
        for (int t = 0; t < TELLINGS.length; t++) {
            CountedBook book = bookOfDay(LAST_DAY);
            due.is(NAMES[t] + " on the day before", TELLINGS[t].tell(book, LAST_DAY - 1), OUTSIDE);
            due.is(NAMES[t] + " on the day after", TELLINGS[t].tell(book, LAST_DAY + 1), OUTSIDE);
            due.is(NAMES[t] + " on the last day", TELLINGS[t].tell(book, LAST_DAY), ANSWERS[t]);
            due.is("THE DAY", book.count(THE_DAY), LAST_DAY);
        }
        CountedBook book = bookOfDay(LAST_DAY);
        due.is("a point on the last day", book.point(1, 1, 0), 1);
        due.is("it lies there then", book.at(3, 1, 0, LAST_DAY), 1);
        due.is("it did not the day before", book.at(3, 1, 0, LAST_DAY - 1), NONE);
        due.is("it is removed then", book.change(REMOVE, 1, 0, LAST_DAY), 1);
        due.is("it lies there no more", book.at(3, 1, 0, LAST_DAY), NONE);
    }

    private static void whatHasNoDay() {
        sentence("which is THE DAY then");
        CountedBook book = bookOfDay(50);
        book.place(20, 0);
        book.street(1, 0);
        book.point(0, 9, 0);
        book.find(10, 0);
        book.at(0, 3, 0, 90);
        book.near(0, 1);
        book.order(0);
        book.holes(0);
        book.where(0, STREET, 90);
        due.is("THE DAY after what has none, or only asks", book.count(THE_DAY), 50);
    }

    private static void askingAtAnyDay() {
        sentence("OUTSIDE (house, extra, day 0 .. 1000000)");
        CountedBook book = bookOfDay(50);
        due.is("at, on a day before THE DAY", book.at(0, 3, 0, 0), 0);
        due.is("at, on the last day", book.at(0, 3, 0, LAST_DAY), 0);
        due.is("at, on day -1", book.at(0, 3, 0, -1), OUTSIDE);
        due.is("at, on day 1000001", book.at(0, 3, 0, LAST_DAY + 1), OUTSIDE);
        due.is("where, on a day before THE DAY", book.where(0, HOUSE, 0), 3);
        due.is("where, on the last day", book.where(0, HOUSE, LAST_DAY), 3);
        due.is("where, on day -1", book.where(0, HOUSE, -1), OUTSIDE);
        due.is("where, on day 1000001", book.where(0, HOUSE, LAST_DAY + 1), OUTSIDE);
    }

    private static void holdsFromItsDay() {
        sentence("Where a point lies (its street and house) holds from the day on which it was so told");
        CountedBook book = bookOfDay(50);
        book.point(0, 9, 0);
        lies(book, 1, 49, NONE, NONE);
        lies(book, 1, 50, 0, 9);
        lies(book, 1, LAST_DAY, 0, 9);
        book.change(RENUMBER, 1, 10, 60);
        lies(book, 1, 60, 0, 10);
        lies(book, 1, LAST_DAY, 0, 10);
        book.change(JOIN, 0, 1, 70);
        lies(book, 1, 70, 1, 10);
        lies(book, 1, LAST_DAY, 1, 10);
        book.change(SPLIT, 0, 10, 80);
        lies(book, 1, 80, 1, 10);
        lies(book, 0, 0, 0, 3);
        lies(book, 0, 70, 1, 3);
    }

    private static void holdsTillTheDay() {
        sentence("till the day on which that was changed (not on that day any more)");
        CountedBook book = bookOfDay(50);
        book.point(0, 9, 0);
        book.change(RENUMBER, 1, 10, 60);
        lies(book, 1, 59, 0, 9);
        lies(book, 1, 60, 0, 10);
        book.change(JOIN, 0, 1, 70);
        lies(book, 1, 69, 0, 10);
        lies(book, 1, 70, 1, 10);
        book.change(REMOVE, 1, 0, 80);
        lies(book, 1, 79, 1, 10);
        lies(book, 1, 80, NONE, NONE);
        lies(book, 1, LAST_DAY, NONE, NONE);
        book.change(CLOSE, 0, 0, 90);
        lies(book, 0, 89, 1, 3);
        lies(book, 0, 90, NONE, NONE);
    }

    private static void severalOnOneDay() {
        sentence("till the day on which that was changed (not on that day any more)");
        CountedBook book = bookOfDay(50);
        book.point(0, 9, 0);
        book.change(RENUMBER, 1, 10, 50);
        lies(book, 1, 49, NONE, NONE);
        lies(book, 1, 50, 0, 10);
        book.change(RENUMBER, 1, 11, 60);
        book.change(RENUMBER, 1, 12, 60);
        lies(book, 1, 59, 0, 10);
        lies(book, 1, 60, 0, 12);
        book.change(JOIN, 0, 1, 60);
        book.change(JOIN, 1, 2, 60);
        lies(book, 1, 59, 0, 10);
        lies(book, 1, 60, 2, 12);
        book.change(REMOVE, 1, 0, 60);
        lies(book, 1, 59, 0, 10);
        lies(book, 1, 60, NONE, NONE);
        int never = book.point(0, 13, 0);
        book.change(REMOVE, never, 0, 60);
        for (int day = 59; day <= 61; day++) {
            lies(book, never, day, NONE, NONE);
        }
    }

    private static void lies(CountedBook book, int point, int day, int street, int house) {
        due.is("street of point " + point + " on day " + day, book.where(point, STREET, day), street);
        due.is("house of point " + point + " on day " + day, book.where(point, HOUSE, day), house);
        if (street != NONE) {
            int extra = book.where(point, EXTRA, day);
            due.is("point at that house on day " + day, book.at(street, house, extra, day), point);
        }
    }
}

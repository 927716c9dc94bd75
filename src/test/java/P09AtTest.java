/** Promise 9: at. */
public final class P09AtTest extends Sentences {
    public static void main(String[] args) {
        wrongNumbers();
        onDays();
        oldNumbers();
        latestThenLeast();
        oldNumbersOfTheGone();
        oldNumbersOverJoins();
        meanings();
        sameDay();
        due.end();
    }

    private static void wrongNumbers() {
        CountedBook book = withRange(ALL, 1, 20);
        due.is("street 4, UNKNOWN before OUTSIDE", book.at(4, 0, 99, -1), UNKNOWN);
        due.is("street -1", book.at(-1, 1, 0, 0), UNKNOWN);
        due.is("house 0", book.at(0, 0, 0, 0), OUTSIDE);
        due.is("house 1000", book.at(0, 1000, 0, 0), OUTSIDE);
        due.is("extra -1", book.at(0, 1, -1, 0), OUTSIDE);
        due.is("extra 26", book.at(0, 1, 26, 0), OUTSIDE);
        due.is("day -1", book.at(0, 1, 0, -1), OUTSIDE);
        due.is("day 1000001", book.at(0, 1, 0, 1000001), OUTSIDE);
        due.is("the least of all", book.at(0, 1, 0, 0), NONE);
        due.is("the most of all", book.at(0, 999, 25, 1000000), NONE);
    }

    private static void onDays() {
        CountedBook book = withRange(ALL, 1, 20);
        book.range(1, 0, 1, 20, 10);
        book.point(0, 3, 2);
        book.point(1, 3, 2);
        book.point(0, 3, 1);
        due.is("by street", book.at(0, 3, 2, 10), 0);
        due.is("by street", book.at(1, 3, 2, 10), 1);
        due.is("by extra", book.at(0, 3, 1, 10), 2);
        due.is("no such extra", book.at(0, 3, 0, 10), NONE);
        due.is("no such house", book.at(0, 4, 2, 10), NONE);
        due.is("before", book.at(0, 3, 2, 9), NONE);
        book.change(4, 0, 0, 20);
        book.point(0, 3, 2);
        due.is("the old one", book.at(0, 3, 2, 19), 0);
        due.is("the new one", book.at(0, 3, 2, 20), 3);
        due.is("THE DAY", book.count(4), 20);
    }

    private static void oldNumbers() {
        CountedBook book = withRange(ALL, 1, 20);
        book.point(0, 3, 0);
        book.change(3, 0, 5, 100);
        due.is("the day before", book.at(0, 3, 0, 99), 0);
        due.is("not there yet", book.at(0, 5, 0, 99), NONE);
        due.is("on that day", book.at(0, 3, 0, 100), 0);
        due.is("179 days later", book.at(0, 3, 0, 279), 0);
        due.is("180 days later", book.at(0, 3, 0, 280), NONE);
        due.is("another extra", book.at(0, 3, 1, 100), NONE);
        due.is("another street", book.at(1, 3, 0, 100), NONE);
        due.is("another house", book.at(0, 4, 0, 100), NONE);
        book.change(3, 0, 3, 150);
        due.is("back again", book.at(0, 3, 0, 400), 0);
        due.is("from there too", book.at(0, 5, 0, 329), 0);
        due.is("from there too, later", book.at(0, 5, 0, 330), NONE);
        due.is("between", book.at(0, 3, 0, 149), 0);
        book.change(1, 0, 10, 160);
        due.is("after a split", book.at(0, 5, 0, 200), 0);
    }

    private static void latestThenLeast() {
        CountedBook book = withRange(ALL, 1, 20);
        book.point(0, 3, 0);
        book.point(0, 9, 0);
        book.change(3, 1, 4, 10);
        book.change(3, 0, 5, 20);
        book.change(3, 1, 3, 20);
        due.is("who lies there comes first", book.at(0, 3, 0, 30), 1);
        book.change(3, 1, 6, 40);
        due.is("the latest", book.at(0, 3, 0, 40), 1);
        due.is("who lay there the day before", book.at(0, 3, 0, 39), 1);
        book.change(3, 0, 3, 50);
        book.change(3, 0, 7, 50);
        due.is("the lesser one, latest", book.at(0, 3, 0, 50), 0);
        due.is("the lesser one had not left then", book.at(0, 3, 0, 49), 1);
        book.change(3, 1, 3, 60);
        book.change(3, 1, 8, 60);
        book.change(3, 0, 3, 60);
        book.change(3, 0, 9, 60);
        due.is("of two on one day the least", book.at(0, 3, 0, 60), 0);
        book.change(3, 0, 3, 70);
        book.change(3, 0, 10, 70);
        book.change(3, 1, 3, 70);
        book.change(3, 1, 11, 70);
        due.is("of two on one day the least, told first", book.at(0, 3, 0, 70), 0);
    }

    private static void oldNumbersOfTheGone() {
        CountedBook book = withRange(ALL, 1, 20);
        book.point(0, 3, 0);
        book.point(0, 13, 0);
        book.change(3, 0, 5, 10);
        book.change(3, 1, 15, 10);
        book.change(4, 0, 0, 20);
        due.is("a removed one", book.at(0, 3, 0, 25), 0);
        due.is("a removed one's last house", book.at(0, 5, 0, 25), NONE);
        book.change(0, 0, 0, 30);
        due.is("a closed one", book.at(0, 13, 0, 35), 1);
        due.is("a closed one's last house", book.at(0, 15, 0, 35), NONE);
        due.is("a closed one's last house before", book.at(0, 15, 0, 29), 1);
    }

    private static void oldNumbersOverJoins() {
        CountedBook book = withRange(ALL, 1, 20);
        book.point(0, 3, 0);
        book.change(3, 0, 5, 10);
        book.change(2, 0, 1, 20);
        due.is("by the old street", book.at(0, 3, 0, 30), 0);
        due.is("by the new street", book.at(1, 3, 0, 30), 0);
        due.is("by the new street before", book.at(1, 3, 0, 19), NONE);
        due.is("by the new street on the day", book.at(1, 3, 0, 20), 0);
        due.is("where it lies", book.at(0, 5, 0, 20), 0);
        book.change(3, 0, 6, 30);
        due.is("left in the new street", book.at(0, 5, 0, 40), 0);
        due.is("left in the new street", book.at(1, 5, 0, 40), 0);
        book.change(0, 0, 0, 50);
        book.alias(1, 2, 60);
        due.is("by an alias later", book.at(2, 5, 0, 60), 0);
        due.is("by an alias later, before", book.at(2, 5, 0, 59), NONE);
        due.is("by the first street", book.at(0, 3, 0, 60), 0);
        book.range(2, 0, 1, 9, 70);
        due.is("another one", book.point(1, 5, 0), 1);
        due.is("who lies there comes first", book.at(0, 5, 0, 70), 1);
        due.is("not before", book.at(0, 5, 0, 69), 0);
    }

    private static void meanings() {
        CountedBook book = withStreets(3);
        book.range(2, 0, 1, 9, 0);
        book.point(0, 4, 0);
        book.alias(0, 1, 10);
        book.change(2, 1, 2, 20);
        due.is("itself", book.at(0, 4, 0, 9), NONE);
        due.is("the one between", book.at(0, 4, 0, 19), NONE);
        due.is("the last one", book.at(0, 4, 0, 20), 0);
        due.is("the one between, then", book.at(1, 4, 0, 20), 0);
        due.is("a day to come", book.at(0, 4, 0, 1000000), 0);
    }

    private static void sameDay() {
        CountedBook book = withRange(ALL, 1, 20);
        book.point(0, 3, 0);
        book.change(3, 0, 5, 0);
        book.change(3, 0, 7, 0);
        due.is("the first house", book.at(0, 3, 0, 0), 0);
        due.is("the house between", book.at(0, 5, 0, 0), 0);
        due.is("it lies at the last", book.where(0, 1, 0), 7);
        book.change(4, 0, 0, 0);
        due.is("removed on the same day", book.at(0, 7, 0, 0), NONE);
        due.is("and yet left on that day", book.at(0, 5, 0, 0), 0);
    }
}

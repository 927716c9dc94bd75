/** Promise 10, at its edges: the nearest point of a street without any, and of equally near ones. */
public final class P10EdgesTest extends Sentences {
    public static void main(String[] args) {
        numbers();
        streetsWithoutLivePoints();
        equallyNear();
        severalAtAHouse();
        atTheEnds();
        whatAStreetMeans();
        inAFullBook();
        due.end();
    }

    private static void numbers() {
        sentence("UNKNOWN, OUTSIDE");
        due.is("in an empty book", new CountedBook().near(0, 1), UNKNOWN);
        for (int street : new int[] {LEAST, -1, 4, 32, MOST}) {
            due.is("street " + street, withPoint().near(street, 1), UNKNOWN);
        }
        for (int house : new int[] {LEAST, -1, 0, 1000, MOST}) {
            due.is("house " + house, withPoint().near(0, house), OUTSIDE);
            due.is("house " + house + " of a street without points", withPoint().near(1, house), OUTSIDE);
        }
        due.is("house 1", withPoint().near(0, 1), 0);
        due.is("house 999, in no range", withPoint().near(0, 999), 0);
    }

    private static void streetsWithoutLivePoints() {
        sentence("then the lesser extra; NONE");
        due.is("a street without ranges", withStreets(1).near(0, 1), NONE);
        due.is("a range without points", withRange(ALL, 1, 20).near(0, 1), NONE);
        CountedBook removed = withPoint();
        removed.change(REMOVE, 0, 0, 0);
        due.is("a removed point", removed.near(0, 3), NONE);
        CountedBook closed = withPoint();
        closed.change(CLOSE, 0, 0, 0);
        due.is("a closed point", closed.near(0, 3), NONE);
        due.is("a point of another street", withPoint().near(1, 3), NONE);
        CountedBook later = withPoint();
        later.change(REMOVE, 0, 0, LAST_DAY);
        due.is("a point that lay there till THE DAY", later.near(0, 3), NONE);
    }

    private static void equallyNear() {
        sentence("of several with the lesser house");
        for (int first = 0; first <= 1; first++) {
            CountedBook book = withRange(ALL, 1, 999);
            int[] houses = first == 0 ? new int[] {490, 510} : new int[] {510, 490};
            book.point(0, houses[0], 0);
            book.point(0, houses[1], 0);
            int lesser = first;
            due.is("just below the middle", book.near(0, 499), lesser);
            due.is("the middle", book.near(0, 500), lesser);
            due.is("just above the middle", book.near(0, 501), 1 - lesser);
        }
        CountedBook extras = withRange(ALL, 1, 20);
        extras.point(0, 6, 0);
        extras.point(0, 4, 25);
        due.is("the lesser house of the greater extra", extras.near(0, 5), 1);
        due.is("nearer by one, of the greater house", extras.near(0, 6), 0);
    }

    private static void severalAtAHouse() {
        sentence("then the lesser extra");
        CountedBook book = withRange(ALL, 1, 20);
        book.point(0, 5, 24);
        book.point(0, 5, 25);
        book.point(0, 5, 1);
        book.point(0, 5, 2);
        due.is("the least extra", book.near(0, 5), 2);
        due.is("the least extra from afar", book.near(0, 999), 2);
        book.change(REMOVE, 2, 0, 0);
        due.is("the next one", book.near(0, 5), 3);
        book.change(RENUMBER, 3, 6, 0);
        due.is("the next one after", book.near(0, 5), 0);
        due.is("the one that went on", book.near(0, 6), 3);
        book.change(REMOVE, 0, 0, 0);
        due.is("the last one", book.near(0, 5), 1);
    }

    private static void atTheEnds() {
        sentence("The live point nearest to a house, by numbers");
        CountedBook book = withRange(ODD, 1, 999);
        book.range(0, EVEN, 1, 999, 0);
        book.point(0, 1, 0);
        book.point(0, 999, 0);
        due.is("from 1", book.near(0, 1), 0);
        due.is("from 500", book.near(0, 500), 0);
        due.is("from 501", book.near(0, 501), 1);
        due.is("from 999", book.near(0, 999), 1);
        book.point(1, 500, 0);
        due.is("an odd house, an even one is near", book.near(0, 501), 2);
        due.is("equally near to 1 and 500 there is none", book.near(0, 250), 0);
        due.is("nearer to 500", book.near(0, 251), 2);
    }

    private static void whatAStreetMeans() {
        sentence("on what a street means on THE DAY");
        CountedBook book = withPoint();
        book.alias(1, 0, 10);
        due.is("an alias", book.near(1, 20), 0);
        book.range(2, ALL, 1, 20, 10);
        book.point(1, 20, 0);
        due.is("another street", book.near(2, 1), 1);
        book.change(CLOSE, 1, 0, 11);
        book.change(JOIN, 0, 2, 20);
        due.is("a joined one", book.near(0, 20), 0);
        due.is("what it went into", book.near(2, 20), 0);
        due.is("the alias of a joined one", book.near(1, 20), 0);
    }

    private static void inAFullBook() {
        sentence("The live point nearest to a house, by numbers");
        CountedBook book = withPoints(120);
        for (int house = 1; house <= 20; house++) {
            due.is("from " + house, book.near(0, house), 26 * (Math.min(house, 5) - 1));
        }
    }
}

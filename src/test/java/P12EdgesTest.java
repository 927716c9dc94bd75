/** Promise 12, at its edges: streets without ranges, without points, with a point at every house. */
public final class P12EdgesTest extends Sentences {
    public static void main(String[] args) {
        unknown();
        without();
        everyHouse();
        severalAtAHouse();
        widest();
        whatAStreetMeans();
        inAFullBook();
        due.end();
    }

    private static void unknown() {
        sentence("UNKNOWN");
        due.is("in an empty book", new CountedBook().holes(0), UNKNOWN);
        for (int street : new int[] {LEAST, -1, 4, 32, MOST}) {
            due.is("street " + street, withPoint().holes(street), UNKNOWN);
        }
        due.is("the last of 32", withStreets(32).holes(31), 0);
        due.is("a 33rd", withStreets(32).holes(32), UNKNOWN);
    }

    private static void without() {
        sentence("How many houses are in live ranges");
        due.is("without ranges", withStreets(1).holes(0), 0);
        CountedBook closed = withPoint();
        closed.change(CLOSE, 0, 0, 0);
        due.is("with a closed range", closed.holes(0), 0);
        due.is("without points", withRange(ALL, 1, 20).holes(0), 20);
        due.is("ranges of another street", withRange(ALL, 1, 20).holes(1), 0);
        CountedBook removed = withPoint();
        due.is("with a point", removed.holes(0), 19);
        removed.change(REMOVE, 0, 0, 0);
        due.is("with a removed point", removed.holes(0), 20);
        removed.change(SPLIT, 0, 3, 0);
        due.is("with a split range", removed.holes(0), 20);
    }

    private static void everyHouse() {
        sentence("and have no live point");
        int[] howMany = {20, 10, 10};
        for (int side = 0; side <= 2; side++) {
            CountedBook book = withRange(side, 1, 20);
            int taken = 0;
            for (int house = 1; house <= 20; house++) {
                if (book.point(0, house, 0) >= 0) {
                    taken++;
                    due.is("side " + side + " up to house " + house, book.holes(0), howMany[side] - taken);
                }
            }
            due.is("side " + side + ", a point at every house", taken, howMany[side]);
        }
    }

    private static void severalAtAHouse() {
        sentence("and have no live point");
        CountedBook book = withRange(ALL, 3, 4);
        for (int extra = 0; extra <= 25; extra++) {
            book.point(0, 3, extra);
            due.is("extras up to " + extra, book.holes(0), 1);
        }
        for (int extra = 0; extra <= 24; extra++) {
            book.change(REMOVE, extra, 0, 0);
            due.is("extras from " + (extra + 1), book.holes(0), 1);
        }
        book.change(RENUMBER, 25, 4, 0);
        due.is("the last one goes to the other house", book.holes(0), 1);
        book.change(REMOVE, 25, 0, 0);
        due.is("none is left", book.holes(0), 2);
    }

    private static void widest() {
        sentence("How many houses are in live ranges");
        CountedBook book = withRange(ODD, 1, 999);
        due.is("all odd ones", book.holes(0), 500);
        book.range(0, EVEN, 1, 999, 0);
        due.is("all", book.holes(0), 999);
        book.point(0, 1, 0);
        book.point(0, 999, 0);
        book.point(1, 2, 0);
        book.point(1, 998, 0);
        due.is("all but four", book.holes(0), 995);
        due.is("asked again", book.holes(0), 995);
        book.change(CLOSE, 0, 0, 0);
        due.is("the even ones but two", book.holes(0), 497);
    }

    private static void whatAStreetMeans() {
        sentence("of what a street means on THE DAY");
        CountedBook book = withPoint();
        book.range(1, ALL, 21, 25, 10);
        book.alias(2, 0, 10);
        due.is("an alias", book.holes(2), 19);
        due.is("another street", book.holes(1), 5);
        book.change(JOIN, 0, 1, 20);
        for (int street = 0; street <= 2; street++) {
            due.is("street " + street + " after the join", book.holes(street), 24);
        }
        due.is("street 3", book.holes(3), 0);
    }

    private static void inAFullBook() {
        sentence("How many houses are in live ranges");
        CountedBook book = withRanges(80);
        due.is("80 ranges of two houses", book.holes(0), 160);
        for (int p = 0; p < 120; p++) {
            book.point(p % 80, 3 * (p % 80) + 1 + p / 80, 0);
        }
        due.is("120 houses with a point", book.holes(0), 40);
        book.change(JOIN, 0, 1, 1);
        due.is("after a join", book.holes(1), 40);
    }
}

/** What the tests share that go through the document sentence by sentence. */
abstract class Sentences {
    static final int NONE = AddressBook.NONE, UNKNOWN = AddressBook.UNKNOWN, OUTSIDE = AddressBook.OUTSIDE,
            STATE = AddressBook.STATE, ROOM = AddressBook.ROOM, OVER = AddressBook.OVER;
    /** Kinds of changes. */
    static final int CLOSE = 0, SPLIT = 1, JOIN = 2, RENUMBER = 3, REMOVE = 4;
    /** What where() is asked for. */
    static final int STREET = 0, HOUSE = 1, EXTRA = 2, RANGE = 3;
    /** What count() is asked for. */
    static final int PLACES = 0, STREETS = 1, LIVE_RANGES = 2, LIVE_POINTS = 3, THE_DAY = 4;
    static final int ALL = 0, ODD = 1, EVEN = 2;
    static final int LAST_DAY = 1000000;
    static final int LEAST = Integer.MIN_VALUE, MOST = Integer.MAX_VALUE;

    static final Due due = new Due();

    static void sentence(String words) {
        due.of(words);
    }

    static CountedBook withPlaces(int places) {
        CountedBook book = new CountedBook();
        for (int p = 0; p < places; p++) {
            book.place(10 + p, p);
        }
        return book;
    }

    /** Streets 0, 1, .. of the names 0, 1, .. in one place of code 10. */
    static CountedBook withStreets(int streets) {
        CountedBook book = withPlaces(1);
        for (int s = 0; s < streets; s++) {
            book.street(0, s);
        }
        return book;
    }

    /** Street 0 of four has range 0, of a side, from low to high, from day 0 on. */
    static CountedBook withRange(int side, int low, int high) {
        CountedBook book = withStreets(4);
        book.range(0, side, low, high, 0);
        return book;
    }

    /** As withRange, of all houses 1 to 20, with point 0 at house 3, extra 0. */
    static CountedBook withPoint() {
        CountedBook book = withRange(ALL, 1, 20);
        book.point(0, 3, 0);
        return book;
    }

    /** Street 0 of four has ranges 0, 1, ..: range r is the houses 3r + 1 and 3r + 2. */
    static CountedBook withRanges(int ranges) {
        CountedBook book = withStreets(4);
        for (int r = 0; r < ranges; r++) {
            book.range(0, ALL, 3 * r + 1, 3 * r + 2, 0);
        }
        return book;
    }

    /** As withRange, of all houses 1 to 20, with points 0, 1, ..: 26 at each of the houses 1, 2, .. */
    static CountedBook withPoints(int points) {
        CountedBook book = withRange(ALL, 1, 20);
        for (int p = 0; p < points; p++) {
            book.point(0, 1 + p / 26, p % 26);
        }
        return book;
    }
}

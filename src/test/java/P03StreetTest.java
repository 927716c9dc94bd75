/** Promise 3: street. */
public final class P03StreetTest extends Sentences {
    public static void main(String[] args) {
        CountedBook book = new CountedBook();
        book.place(10, 1);
        book.place(11, 1);
        due.is("street(-1, 0)", book.street(-1, 0), UNKNOWN);
        due.is("street(2, 10000), UNKNOWN before OUTSIDE", book.street(2, 10000), UNKNOWN);
        due.is("street(0, -1)", book.street(0, -1), OUTSIDE);
        due.is("street(0, 10000)", book.street(0, 10000), OUTSIDE);
        due.is("street(0, 0)", book.street(0, 0), 0);
        due.is("street(0, 9999)", book.street(0, 9999), 1);
        due.is("street(0, 0) again", book.street(0, 0), STATE);
        due.is("street(1, 0), another place", book.street(1, 0), 2);
        due.is("count(1)", book.count(1), 3);
        for (int s = 3; s < 32; s++) {
            due.is("street " + s, book.street(1, s), s);
        }
        due.is("a 33rd street", book.street(0, 5), ROOM);
        due.is("STATE before ROOM", book.street(1, 31), STATE);
        due.is("OUTSIDE before ROOM", book.street(1, -5), OUTSIDE);
        due.is("count(1)", book.count(1), 32);
        due.is("holes of the last one", book.holes(31), 0);
        nameOfAStreetThatIsGone();
        due.end();
    }

    private static void nameOfAStreetThatIsGone() {
        CountedBook book = withStreets(2);
        book.alias(0, 1, 0);
        due.is("the name of a street that went into another is kept", book.street(0, 0), STATE);
    }
}

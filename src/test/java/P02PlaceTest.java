/** Promise 2: place. */
public final class P02PlaceTest extends Sentences {
    public static void main(String[] args) {
        numbersAndLimits();
        roomAndOrder();
        due.end();
    }

    private static void numbersAndLimits() {
        CountedBook book = new CountedBook();
        due.is("place(0, 5)", book.place(0, 5), OUTSIDE);
        due.is("place(-1, 5)", book.place(-1, 5), OUTSIDE);
        due.is("place(100000, 5)", book.place(100000, 5), OUTSIDE);
        due.is("place(1, -1)", book.place(1, -1), OUTSIDE);
        due.is("place(1, 10000)", book.place(1, 10000), OUTSIDE);
        due.is("count(0)", book.count(0), 0);
        due.is("place(1, 0)", book.place(1, 0), 0);
        due.is("place(99999, 9999)", book.place(99999, 9999), 1);
        due.is("place(1, 3), code is there", book.place(1, 3), STATE);
        due.is("place(1, 10000), OUTSIDE before STATE", book.place(1, 10000), OUTSIDE);
        due.is("place(2, 0), same name", book.place(2, 0), 2);
        due.is("count(0)", book.count(0), 3);
    }

    private static void roomAndOrder() {
        CountedBook book = new CountedBook();
        for (int p = 0; p < 16; p++) {
            due.is("place " + p, book.place(p + 1, 0), p);
        }
        due.is("a 17th place", book.place(17, 0), ROOM);
        due.is("STATE before ROOM", book.place(16, 0), STATE);
        due.is("OUTSIDE before ROOM", book.place(0, 0), OUTSIDE);
        due.is("count(0)", book.count(0), 16);
        due.is("street of the last one", book.street(15, 0), 0);
        due.is("street of none", book.street(16, 0), UNKNOWN);
    }
}

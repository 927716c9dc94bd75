/** Promise 10: near. */
public final class P10NearTest extends Sentences {
    public static void main(String[] args) {
        CountedBook book = withStreets(3);
        due.is("street 3, UNKNOWN before OUTSIDE", book.near(3, 0), UNKNOWN);
        due.is("street -1", book.near(-1, 1), UNKNOWN);
        due.is("house 0", book.near(0, 0), OUTSIDE);
        due.is("house 1000", book.near(0, 1000), OUTSIDE);
        due.is("none", book.near(0, 1), NONE);
        book.range(0, 1, 1, 999, 0);
        book.range(0, 2, 1, 999, 0);
        book.range(1, 0, 1, 999, 0);
        due.is("a range without points", book.near(0, 1), NONE);
        book.point(0, 19, 4);
        book.point(1, 10, 7);
        book.point(1, 10, 3);
        book.point(2, 12, 0);
        due.is("at the house, the lesser extra", book.near(0, 10), 2);
        due.is("nearer to the greater", book.near(0, 15), 0);
        due.is("nearer to the lesser", book.near(0, 14), 2);
        due.is("far below", book.near(0, 1), 2);
        due.is("far above", book.near(0, 999), 0);
        book.point(1, 20, 0);
        due.is("equally near, the lesser house", book.near(0, 15), 0);
        due.is("between 10 and 20", afterRemovalOf19(book), 2);
        book.change(3, 4, 14, 2);
        due.is("numbered anew", book.near(0, 15), 4);
        book.change(0, 1, 0, 3);
        due.is("none is live", book.near(0, 15), NONE);
        due.is("another street", book.near(1, 15), 3);
        book.change(0, 0, 0, 4);
        book.alias(0, 1, 5);
        due.is("what it means", book.near(0, 1), 3);
        due.end();
    }

    private static int afterRemovalOf19(CountedBook book) {
        book.change(4, 0, 0, 1);
        return book.near(0, 15);
    }
}

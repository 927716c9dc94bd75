/** Promise 14: count. */
public final class P14CountTest extends Sentences {
    public static void main(String[] args) {
        CountedBook book = withRange(ALL, 1, 20);
        book.place(11, 1);
        book.range(1, 0, 1, 20, 3);
        book.point(0, 1, 0);
        book.point(0, 2, 0);
        book.point(1, 3, 0);
        counts(book, 2, 4, 2, 3, 3);
        book.change(1, 0, 2, 4);
        counts(book, 2, 4, 3, 3, 4);
        book.change(2, 1, 2, 5);
        counts(book, 2, 4, 3, 3, 5);
        book.change(3, 0, 1, 6);
        counts(book, 2, 4, 3, 3, 5);
        book.change(4, 0, 0, 6);
        counts(book, 2, 4, 3, 2, 6);
        book.change(0, 3, 0, 7);
        counts(book, 2, 4, 2, 1, 7);
        book.alias(1, 2, 9);
        counts(book, 2, 4, 2, 1, 7);
        due.is("count(-1)", book.count(-1), OUTSIDE);
        due.is("count(5)", book.count(5), OUTSIDE);
        due.end();
    }

    private static void counts(CountedBook book, int... want) {
        for (int what = 0; what < want.length; what++) {
            due.is("count(" + what + ")", book.count(what), want[what]);
        }
    }
}

/** Promise 14: count. */
public final class P14CountTest {
    public static void main(String[] args) {
        Due due = new Due();
        AddressBook book = Books.withRange();
        book.place(11, 1);
        book.range(1, 0, 1, 20, 3);
        book.point(0, 1, 0);
        book.point(0, 2, 0);
        book.point(1, 3, 0);
        counts(due, book, 2, 3, 2, 3, 3);
        book.change(1, 0, 2, 4);
        counts(due, book, 2, 3, 3, 3, 4);
        book.change(2, 1, 2, 5);
        counts(due, book, 2, 3, 3, 3, 5);
        book.change(3, 0, 1, 6);
        counts(due, book, 2, 3, 3, 3, 5);
        book.change(4, 0, 0, 6);
        counts(due, book, 2, 3, 3, 2, 6);
        book.change(0, 3, 0, 7);
        counts(due, book, 2, 3, 2, 1, 7);
        book.alias(1, 2, 9);
        counts(due, book, 2, 3, 2, 1, 7);
        due.is("count(-1)", book.count(-1), AddressBook.OUTSIDE);
        due.is("count(5)", book.count(5), AddressBook.OUTSIDE);
        due.end();
    }

    private static void counts(Due due, AddressBook book, int... want) {
        for (int what = 0; what < want.length; what++) {
            due.is("count(" + what + ")", book.count(what), want[what]);
        }
    }
}

/** Promise 4: find. */
public final class P04FindTest extends Sentences {
    public static void main(String[] args) {
        CountedBook book = new CountedBook();
        book.place(10, 1);
        book.place(11, 1);
        book.street(1, 5);
        book.street(0, 5);
        book.street(0, 6);
        due.is("find(10, 5)", book.find(10, 5), 1);
        due.is("find(11, 5)", book.find(11, 5), 0);
        due.is("find(10, 6)", book.find(10, 6), 2);
        due.is("find(11, 6)", book.find(11, 6), NONE);
        due.is("find(12, 5)", book.find(12, 5), NONE);
        due.is("find(0, 0), no such code", book.find(0, 0), NONE);
        due.is("find(-7, -7)", book.find(-7, -7), NONE);
        due.is("find(10, 10000)", book.find(10, 10000), NONE);
        book.alias(1, 2, 3);
        due.is("find(10, 5) of a street that went into another", book.find(10, 5), 1);
        due.end();
    }
}

/** Promise 11: order. */
public final class P11OrderTest extends Sentences {
    public static void main(String[] args) {
        CountedBook book = withRange(ALL, 1, 20);
        book.range(0, 0, 21, 40, 0);
        book.range(1, 0, 50, 60, 0);
        book.point(0, 4, 1);
        book.point(0, 4, 0);
        book.point(1, 30, 0);
        book.point(0, 7, 2);
        book.point(1, 21, 0);
        book.point(0, 7, 0);
        book.point(2, 51, 0);
        book.point(2, 60, 0);
        int[] want = {5, 4, 3, 1, 2, 0, 0, 1};
        for (int p = 0; p < want.length; p++) {
            due.is("order(" + p + ")", book.order(p), want[p]);
        }
        due.is("order(-1)", book.order(-1), UNKNOWN);
        due.is("order(8)", book.order(8), UNKNOWN);
        book.change(2, 1, 0, 5);
        due.is("after a join, odd", book.order(6), 3);
        due.is("after a join, even", book.order(7), 4);
        due.is("after a join, the last", book.order(0), 7);
        book.change(4, 5, 0, 6);
        due.is("a removed one", book.order(5), STATE);
        due.is("one fewer before", book.order(0), 6);
        book.change(3, 0, 1, 7);
        due.is("numbered anew", book.order(0), 0);
        book.change(0, 2, 0, 8);
        due.is("a closed one", book.order(6), STATE);
        due.is("without the closed ones", book.order(1), 4);
        book.change(1, 0, 5, 9);
        due.is("after a split", book.order(1), 4);
        due.end();
    }
}

/** Promise 1, at its edges: every call on an object that holds nothing. */
public final class P01EdgesTest extends Sentences {
    private static final int[] NUMBERS = {LEAST, -1, 0, 1, 15, 31, 79, 119, MOST};

    public static void main(String[] args) {
        sentence("Nothing; THE DAY is 0");
        for (int n : NUMBERS) {
            everyCall(n);
        }
        firstNumbers();
        due.end();
    }

    private static void everyCall(int n) {
        CountedBook book = new CountedBook();
        due.is("street(" + n + ", 0)", book.street(n, 0), UNKNOWN);
        due.is("find(" + n + ", 0)", book.find(n, 0), NONE);
        due.is("find(1, " + n + ")", book.find(1, n), NONE);
        due.is("range(" + n + ", ..)", book.range(n, ALL, 1, 2, 0), UNKNOWN);
        due.is("point(" + n + ", ..)", book.point(n, 1, 0), UNKNOWN);
        for (int kind = 0; kind <= 4; kind++) {
            due.is("change(" + kind + ", " + n + ", ..)", book.change(kind, n, n, 0), UNKNOWN);
        }
        due.is("alias(" + n + ", ..)", book.alias(n, n, 0), UNKNOWN);
        due.is("at(" + n + ", ..)", book.at(n, 1, 0, 0), UNKNOWN);
        due.is("near(" + n + ", 1)", book.near(n, 1), UNKNOWN);
        due.is("order(" + n + ")", book.order(n), UNKNOWN);
        due.is("holes(" + n + ")", book.holes(n), UNKNOWN);
        for (int what = 0; what <= 3; what++) {
            due.is("where(" + n + ", " + what + ", 0)", book.where(n, what, 0), UNKNOWN);
        }
        for (int what = 0; what <= 4; what++) {
            due.is("count(" + what + ")", book.count(what), 0);
        }
    }

    private static void firstNumbers() {
        CountedBook one = new CountedBook();
        CountedBook other = new CountedBook();
        for (CountedBook book : new CountedBook[] {one, other}) {
            due.is("the first place", book.place(10, 0), 0);
            due.is("the first street", book.street(0, 0), 0);
            due.is("the first range", book.range(0, ALL, 1, 9, 0), 0);
            due.is("the first point", book.point(0, 1, 0), 0);
        }
        one.change(CLOSE, 0, 0, 8);
        due.is("THE DAY of the other", other.count(THE_DAY), 0);
        due.is("the other's range", other.count(LIVE_RANGES), 1);
    }
}

/** Promise 1: a new object holds nothing, and THE DAY is 0. */
public final class P01NewObjectTest extends Sentences {
    public static void main(String[] args) {
        CountedBook book = new CountedBook();
        for (int what = 0; what <= 4; what++) {
            due.is("count(" + what + ")", book.count(what), 0);
        }
        due.is("find", book.find(1, 0), NONE);
        due.is("street", book.street(0, 0), UNKNOWN);
        due.is("range", book.range(0, 0, 1, 2, 0), UNKNOWN);
        due.is("point", book.point(0, 1, 0), UNKNOWN);
        due.is("alias", book.alias(0, 0, 0), UNKNOWN);
        due.is("order", book.order(0), UNKNOWN);
        due.is("holes", book.holes(0), UNKNOWN);
        for (int kind = 0; kind <= 4; kind++) {
            due.is("change(" + kind + ")", book.change(kind, 0, 0, 0), UNKNOWN);
        }
        twoObjectsAreApart();
        due.end();
    }

    private static void twoObjectsAreApart() {
        CountedBook one = withRange(ALL, 1, 20);
        CountedBook other = new CountedBook();
        one.range(0, 0, 30, 40, 7);
        due.is("count(0) of the other", other.count(0), 0);
        due.is("count(4) of the other", other.count(4), 0);
    }
}

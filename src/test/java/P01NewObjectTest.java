/** Promise 1: a new object holds nothing, and THE DAY is 0. */
public final class P01NewObjectTest {
    public static void main(String[] args) {
        Due due = new Due();
        AddressBook book = new AddressBook();
        for (int what = 0; what <= 4; what++) {
            due.is("count(" + what + ")", book.count(what), 0);
        }
        due.is("find", book.find(1, 0), AddressBook.NONE);
        due.is("street", book.street(0, 0), AddressBook.UNKNOWN);
        due.is("range", book.range(0, 0, 1, 2, 0), AddressBook.UNKNOWN);
        due.is("point", book.point(0, 1, 0), AddressBook.UNKNOWN);
        due.is("alias", book.alias(0, 0, 0), AddressBook.UNKNOWN);
        due.is("order", book.order(0), AddressBook.UNKNOWN);
        due.is("holes", book.holes(0), AddressBook.UNKNOWN);
        for (int kind = 0; kind <= 4; kind++) {
            due.is("change(" + kind + ")", book.change(kind, 0, 0, 0), AddressBook.UNKNOWN);
        }
        twoObjectsAreApart(due);
        due.end();
    }

    private static void twoObjectsAreApart(Due due) {
        AddressBook one = Books.withRange();
        AddressBook other = new AddressBook();
        one.range(0, 0, 30, 40, 7);
        due.is("count(0) of the other", other.count(0), 0);
        due.is("count(4) of the other", other.count(4), 0);
    }
}

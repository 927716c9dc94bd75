/** Promise 6: point. */
public final class P06PointTest {
    public static void main(String[] args) {
        Due due = new Due();
        wrongNumbers(due);
        state(due);
        room(due);
        fromTheDayOn(due);
        due.end();
    }

    private static void wrongNumbers(Due due) {
        AddressBook book = Books.withStreets(1);
        book.range(0, 1, 4, 10, 0);
        book.range(0, 2, 13, 19, 0);
        due.is("range -1", book.point(-1, 5, 0), AddressBook.UNKNOWN);
        due.is("range 2, UNKNOWN before OUTSIDE", book.point(2, 0, 99), AddressBook.UNKNOWN);
        due.is("below", book.point(0, 3, 0), AddressBook.OUTSIDE);
        due.is("low is even", book.point(0, 4, 0), AddressBook.OUTSIDE);
        due.is("high is even", book.point(0, 10, 0), AddressBook.OUTSIDE);
        due.is("above", book.point(0, 11, 0), AddressBook.OUTSIDE);
        due.is("inside, even", book.point(0, 6, 0), AddressBook.OUTSIDE);
        due.is("inside, odd", book.point(1, 15, 0), AddressBook.OUTSIDE);
        due.is("extra -1", book.point(0, 5, -1), AddressBook.OUTSIDE);
        due.is("extra 26", book.point(0, 5, 26), AddressBook.OUTSIDE);
        due.is("count(3)", book.count(3), 0);
        due.is("the lowest", book.point(0, 5, 0), 0);
        due.is("the highest", book.point(0, 9, 25), 1);
        due.is("the lowest even one", book.point(1, 14, 0), 2);
        due.is("the highest even one", book.point(1, 18, 0), 3);
        due.is("count(3)", book.count(3), 4);
    }

    private static void state(Due due) {
        AddressBook book = Books.withRange();
        due.is("the first", book.point(0, 3, 1), 0);
        due.is("the same", book.point(0, 3, 1), AddressBook.STATE);
        due.is("another extra", book.point(0, 3, 2), 1);
        book.range(1, 0, 1, 20, 0);
        due.is("another street", book.point(1, 3, 1), 2);
        book.change(4, 0, 0, 1);
        due.is("after the removal", book.point(0, 3, 1), 3);
        book.change(3, 3, 4, 2);
        due.is("where one was numbered anew", book.point(0, 3, 1), 4);
        due.is("what it is numbered now", book.point(0, 4, 1), AddressBook.STATE);
        book.change(0, 0, 0, 3);
        due.is("a closed range", book.point(0, 7, 0), AddressBook.STATE);
        due.is("OUTSIDE before STATE", book.point(0, 21, 0), AddressBook.OUTSIDE);
        book.change(1, 1, 10, 3);
        due.is("a split range", book.point(1, 7, 0), AddressBook.STATE);
        due.is("its part", book.point(2, 7, 0), 5);
        due.is("in its part, the same", book.point(2, 3, 1), AddressBook.STATE);
    }

    private static void room(Due due) {
        AddressBook book = Books.withAllPoints();
        due.is("count(3)", book.count(3), 120);
        due.is("a 121st", book.point(0, 20, 0), AddressBook.ROOM);
        due.is("STATE before ROOM", book.point(0, 1, 0), AddressBook.STATE);
        book.change(4, 119, 0, 0);
        due.is("a removed one still takes room", book.point(0, 20, 0), AddressBook.ROOM);
    }

    private static void fromTheDayOn(Due due) {
        AddressBook book = Books.withRange();
        book.range(1, 0, 1, 1, 40);
        book.point(0, 3, 0);
        due.is("THE DAY is as it was", book.count(4), 40);
        due.is("the day before", book.at(0, 3, 0, 39), AddressBook.NONE);
        due.is("THE DAY", book.at(0, 3, 0, 40), 0);
        due.is("later", book.at(0, 3, 0, 1000000), 0);
    }
}

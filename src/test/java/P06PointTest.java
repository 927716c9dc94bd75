/** Promise 6: point. */
public final class P06PointTest extends Sentences {
    public static void main(String[] args) {
        wrongNumbers();
        state();
        room();
        fromTheDayOn();
        due.end();
    }

    private static void wrongNumbers() {
        CountedBook book = withStreets(1);
        book.range(0, 1, 4, 10, 0);
        book.range(0, 2, 13, 19, 0);
        due.is("range -1", book.point(-1, 5, 0), UNKNOWN);
        due.is("range 2, UNKNOWN before OUTSIDE", book.point(2, 0, 99), UNKNOWN);
        due.is("below", book.point(0, 3, 0), OUTSIDE);
        due.is("low is even", book.point(0, 4, 0), OUTSIDE);
        due.is("high is even", book.point(0, 10, 0), OUTSIDE);
        due.is("above", book.point(0, 11, 0), OUTSIDE);
        due.is("inside, even", book.point(0, 6, 0), OUTSIDE);
        due.is("inside, odd", book.point(1, 15, 0), OUTSIDE);
        due.is("extra -1", book.point(0, 5, -1), OUTSIDE);
        due.is("extra 26", book.point(0, 5, 26), OUTSIDE);
        due.is("count(3)", book.count(3), 0);
        due.is("the lowest", book.point(0, 5, 0), 0);
        due.is("the highest", book.point(0, 9, 25), 1);
        due.is("the lowest even one", book.point(1, 14, 0), 2);
        due.is("the highest even one", book.point(1, 18, 0), 3);
        due.is("count(3)", book.count(3), 4);
    }

    private static void state() {
        CountedBook book = withRange(ALL, 1, 20);
        due.is("the first", book.point(0, 3, 1), 0);
        due.is("the same", book.point(0, 3, 1), STATE);
        due.is("another extra", book.point(0, 3, 2), 1);
        book.range(1, 0, 1, 20, 0);
        due.is("another street", book.point(1, 3, 1), 2);
        book.change(4, 0, 0, 1);
        due.is("after the removal", book.point(0, 3, 1), 3);
        book.change(3, 3, 4, 2);
        due.is("where one was numbered anew", book.point(0, 3, 1), 4);
        due.is("what it is numbered now", book.point(0, 4, 1), STATE);
        book.change(0, 0, 0, 3);
        due.is("a closed range", book.point(0, 7, 0), STATE);
        due.is("OUTSIDE before STATE", book.point(0, 21, 0), OUTSIDE);
        book.change(1, 1, 10, 3);
        due.is("a split range", book.point(1, 7, 0), STATE);
        due.is("its part", book.point(2, 7, 0), 5);
        due.is("in its part, the same", book.point(2, 3, 1), STATE);
    }

    private static void room() {
        CountedBook book = withPoints(120);
        due.is("count(3)", book.count(3), 120);
        due.is("a 121st", book.point(0, 20, 0), ROOM);
        due.is("STATE before ROOM", book.point(0, 1, 0), STATE);
        book.change(4, 119, 0, 0);
        due.is("a removed one still takes room", book.point(0, 20, 0), ROOM);
    }

    private static void fromTheDayOn() {
        CountedBook book = withRange(ALL, 1, 20);
        book.range(1, 0, 1, 1, 40);
        book.point(0, 3, 0);
        due.is("THE DAY is as it was", book.count(4), 40);
        due.is("the day before", book.at(0, 3, 0, 39), NONE);
        due.is("THE DAY", book.at(0, 3, 0, 40), 0);
        due.is("later", book.at(0, 3, 0, 1000000), 0);
    }
}

/** Promise 8: alias. */
public final class P08AliasTest extends Sentences {
    public static void main(String[] args) {
        refusals();
        rings();
        chain();
        due.end();
    }

    private static void refusals() {
        CountedBook book = withRange(ALL, 1, 20);
        book.range(2, 0, 1, 5, 10);
        due.is("street 4", book.alias(4, 0, 10), UNKNOWN);
        due.is("street -1", book.alias(-1, 0, 10), UNKNOWN);
        due.is("other 4, UNKNOWN before OUTSIDE", book.alias(0, 4, 9), UNKNOWN);
        due.is("other -1", book.alias(1, -1, 10), UNKNOWN);
        due.is("a day before", book.alias(1, 0, 9), OUTSIDE);
        due.is("day 1000001", book.alias(1, 0, 1000001), OUTSIDE);
        due.is("OUTSIDE before STATE", book.alias(0, 1, 9), OUTSIDE);
        due.is("with a live range", book.alias(0, 1, 11), STATE);
        due.is("with a live range, into itself", book.alias(0, 0, 11), STATE);
        due.is("THE DAY", book.count(4), 10);
        book.change(0, 0, 0, 11);
        due.is("with a closed range", book.alias(0, 1, 12), 1);
        due.is("THE DAY", book.count(4), 12);
        due.is("has gone", book.alias(0, 2, 12), STATE);
        due.is("has gone, into itself", book.alias(0, 0, 12), STATE);
        book.change(2, 2, 1, 13);
        due.is("has gone by a join", book.alias(2, 0, 13), STATE);
        due.is("the live ranges came with the join", book.alias(1, 0, 13), STATE);
    }

    private static void rings() {
        CountedBook book = withStreets(4);
        due.is("into itself", book.alias(0, 0, 5), 0);
        due.is("THE DAY", book.count(4), 0);
        due.is("0 into 1", book.alias(0, 1, 5), 1);
        due.is("1 into 0", book.alias(1, 0, 6), 0);
        due.is("1 into 2", book.alias(1, 2, 6), 1);
        due.is("2 into 0", book.alias(2, 0, 7), 0);
        due.is("2 into 1", book.alias(2, 1, 7), 0);
        due.is("THE DAY", book.count(4), 6);
        due.is("2 has not gone", book.range(2, 0, 1, 3, 7), 0);
        due.is("into one that has gone", book.alias(3, 0, 8), 1);
        due.is("what it means", book.holes(3), 3);
    }

    private static void chain() {
        CountedBook book = withStreets(32);
        for (int s = 30; s >= 0; s--) {
            due.is(s + " into the next one", book.alias(s, s + 1, 31 - s), 1);
        }
        book.range(31, 0, 7, 7, 40);
        book.point(0, 7, 0);
        due.is("the longest chain", book.at(0, 7, 0, 40), 0);
        due.is("the longest chain", book.near(0, 1), 0);
        due.is("the ring of all", book.alias(31, 0, 40), STATE);
        book.change(0, 0, 0, 40);
        due.is("the ring of all", book.alias(31, 0, 41), 0);
        due.is("THE DAY", book.count(4), 40);
    }
}

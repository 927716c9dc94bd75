/** Promise 5: range. */
public final class P05RangeTest extends Sentences {
    public static void main(String[] args) {
        wrongNumbers();
        houseless();
        days();
        overOneAnother();
        room();
        state();
        due.end();
    }

    private static void wrongNumbers() {
        CountedBook book = withStreets(1);
        due.is("street -1", book.range(-1, 0, 1, 2, 0), UNKNOWN);
        due.is("street 1, UNKNOWN before OUTSIDE", book.range(1, 9, 0, 0, -1), UNKNOWN);
        due.is("side -1", book.range(0, -1, 1, 2, 0), OUTSIDE);
        due.is("side 3", book.range(0, 3, 1, 2, 0), OUTSIDE);
        due.is("low 0", book.range(0, 0, 0, 2, 0), OUTSIDE);
        due.is("high 1000", book.range(0, 0, 1, 1000, 0), OUTSIDE);
        due.is("low above high", book.range(0, 0, 5, 4, 0), OUTSIDE);
        due.is("low and high 1000", book.range(0, 0, 1000, 1000, 0), OUTSIDE);
        due.is("count(2)", book.count(2), 0);
        due.is("1 to 999", book.range(0, 0, 1, 999, 0), 0);
        due.is("count(2)", book.count(2), 1);
    }

    private static void houseless() {
        CountedBook book = withStreets(1);
        due.is("no odd one", book.range(0, 1, 4, 4, 0), OUTSIDE);
        due.is("no even one", book.range(0, 2, 5, 5, 0), OUTSIDE);
        due.is("no even one at 1", book.range(0, 2, 1, 1, 0), OUTSIDE);
        due.is("no even one at 999", book.range(0, 2, 999, 999, 0), OUTSIDE);
        due.is("one odd house", book.range(0, 1, 4, 5, 0), 0);
        due.is("one even house", book.range(0, 2, 5, 6, 0), 1);
        due.is("one house", book.range(0, 0, 7, 7, 0), 2);
        due.is("all of their houses are holes", book.holes(0), 3);
    }

    private static void days() {
        CountedBook book = withStreets(1);
        due.is("day -1", book.range(0, 0, 1, 2, -1), OUTSIDE);
        due.is("day 1000001", book.range(0, 0, 1, 2, 1000001), OUTSIDE);
        due.is("THE DAY", book.count(4), 0);
        due.is("day 9", book.range(0, 0, 1, 2, 9), 0);
        due.is("THE DAY", book.count(4), 9);
        due.is("day 8", book.range(0, 0, 3, 4, 8), OUTSIDE);
        due.is("day 9 again", book.range(0, 0, 3, 4, 9), 1);
        due.is("refused on day 20", book.range(0, 0, 1, 1, 20), OVER);
        due.is("THE DAY", book.count(4), 9);
        due.is("day 1000000", book.range(0, 0, 5, 6, 1000000), 2);
        due.is("THE DAY", book.count(4), 1000000);
    }

    private static void overOneAnother() {
        CountedBook book = withStreets(2);
        book.range(0, 1, 1, 9, 0);
        book.range(0, 2, 2, 8, 0);
        due.is("all over the odd and the even", book.range(0, 0, 1, 20, 0), OVER);
        due.is("all over the even alone", book.range(0, 0, 2, 2, 0), OVER - 1);
        due.is("odd over the odd", book.range(0, 1, 9, 20, 0), OVER);
        due.is("even over the even", book.range(0, 2, 1, 2, 0), OVER - 1);
        due.is("even, only odd ones are common", book.range(0, 2, 9, 20, 0), 2);
        due.is("odd between even ones", book.range(0, 1, 10, 20, 0), 3);
        due.is("the same houses in another street", book.range(1, 0, 1, 20, 0), 4);
        due.is("over the others alone", book.range(0, 0, 20, 20, 0), OVER - 2);
        book.change(0, 0, 0, 0);
        due.is("a closed one is not in the way", book.range(0, 1, 1, 9, 0), 5);
        book.change(1, 2, 15, 0);
        due.is("the least that is over it after a split", book.range(0, 2, 14, 16, 0), OVER - 6);
    }

    private static void room() {
        CountedBook book = withRanges(80);
        due.is("count(2)", book.count(2), 80);
        due.is("an 81st", book.range(0, 0, 900, 901, 0), ROOM);
        due.is("ROOM before OVER", book.range(0, 0, 1, 1, 0), ROOM);
        book.change(0, 79, 0, 0);
        due.is("a closed one still takes room", book.range(0, 0, 900, 901, 0), ROOM);
        due.is("OUTSIDE before ROOM", book.range(0, 0, 3, 2, 0), OUTSIDE);
        book.alias(1, 2, 0);
        due.is("STATE before ROOM", book.range(1, 0, 1, 1, 0), STATE);
    }

    private static void state() {
        CountedBook book = withStreets(3);
        book.alias(0, 1, 5);
        book.change(2, 1, 2, 6);
        due.is("an alias", book.range(0, 0, 1, 2, 6), STATE);
        due.is("a joined one", book.range(1, 0, 1, 2, 6), STATE);
        due.is("OUTSIDE before STATE", book.range(1, 0, 1, 2, 5), OUTSIDE);
        due.is("what it went into", book.range(2, 0, 1, 2, 6), 0);
    }
}

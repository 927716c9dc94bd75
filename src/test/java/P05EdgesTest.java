/** Promise 5, at its edges: what range() refuses, and the last that it does not. */
public final class P05EdgesTest extends Sentences {
    public static void main(String[] args) {
        unknown();
        outside();
        state();
        room();
        over();
        due.end();
    }

    private static void unknown() {
        sentence("A live range more from a day on: its number. UNKNOWN");
        due.is("street 0 of an empty book", new CountedBook().range(0, ALL, 1, 2, 0), UNKNOWN);
        for (int streets : new int[] {1, 31, 32}) {
            due.is("street -1", withStreets(streets).range(-1, ALL, 1, 2, 0), UNKNOWN);
            due.is("street " + streets, withStreets(streets).range(streets, ALL, 1, 2, 0), UNKNOWN);
            due.is("the least street", withStreets(streets).range(LEAST, ALL, 1, 2, 0), UNKNOWN);
            due.is("the most street", withStreets(streets).range(MOST, ALL, 1, 2, 0), UNKNOWN);
            due.is("the last street", withStreets(streets).range(streets - 1, ALL, 1, 2, 0), 0);
        }
    }

    private static void outside() {
        sentence("OUTSIDE (side, houses, no house is in it, day)");
        due.is("the least of all", withStreets(1).range(0, 0, 1, 1, 0), 0);
        due.is("the most of all", withStreets(1).range(0, 1, 999, 999, LAST_DAY), 0);
        due.is("side 2", withStreets(1).range(0, 2, 998, 999, 0), 0);
        due.is("side -1", withStreets(1).range(0, -1, 1, 2, 0), OUTSIDE);
        due.is("side 3", withStreets(1).range(0, 3, 1, 2, 0), OUTSIDE);
        due.is("low 0", withStreets(1).range(0, ALL, 0, 2, 0), OUTSIDE);
        due.is("high 1000", withStreets(1).range(0, ALL, 1, 1000, 0), OUTSIDE);
        due.is("low 0, the odd ones are inside", withStreets(1).range(0, ODD, 0, 9, 0), OUTSIDE);
        due.is("high 1000, the odd ones are inside", withStreets(1).range(0, ODD, 1, 1000, 0), OUTSIDE);
        due.is("low above high", withStreets(1).range(0, ALL, 2, 1, 0), OUTSIDE);
        due.is("odd ones in 2 to 2", withStreets(1).range(0, ODD, 2, 2, 0), OUTSIDE);
        due.is("even ones in 1 to 1", withStreets(1).range(0, EVEN, 1, 1, 0), OUTSIDE);
        due.is("odd ones, low above high by one", withStreets(1).range(0, ODD, 4, 3, 0), OUTSIDE);
        due.is("odd ones, 5 down to 3", withStreets(1).range(0, ODD, 5, 3, 0), OUTSIDE);
        due.is("day -1", withStreets(1).range(0, ALL, 1, 2, -1), OUTSIDE);
        due.is("day 1000001", withStreets(1).range(0, ALL, 1, 2, LAST_DAY + 1), OUTSIDE);
    }

    private static void state() {
        sentence("STATE (the street has gone into another one)");
        CountedBook book = withStreets(4);
        book.alias(0, 1, 10);
        book.change(JOIN, 2, 3, 10);
        due.is("an alias", book.range(0, ALL, 1, 2, 10), STATE);
        due.is("a joined one", book.range(2, ALL, 1, 2, 10), STATE);
        due.is("what the alias went into", book.range(1, ALL, 1, 2, 10), 0);
        due.is("what the joined one went into", book.range(3, ALL, 1, 2, 10), 1);
        due.is("an alias that was refused", book.alias(1, 3, 10), STATE);
        due.is("it has not gone", book.range(1, ALL, 3, 4, 10), 2);
        CountedBook itself = withStreets(1);
        due.is("an alias that answered 0", itself.alias(0, 0, 10), 0);
        due.is("it has not gone either", itself.range(0, ALL, 1, 2, 0), 0);
    }

    private static void room() {
        sentence("STATE (the street has gone into another one), ROOM");
        CountedBook book = withRanges(79);
        due.is("the last", book.range(0, ALL, 999, 999, 0), 79);
        due.is("one more", book.range(0, ALL, 900, 900, 0), ROOM);
        book.change(CLOSE, 79, 0, 0);
        due.is("in the place of a closed one", book.range(0, ALL, 999, 999, 0), ROOM);
        due.is("live ranges", book.count(LIVE_RANGES), 79);
        CountedBook split = withRanges(78);
        split.change(SPLIT, 5, 17, 0);
        due.is("after a split took the last two", split.range(0, ALL, 999, 999, 0), ROOM);
        CountedBook one = withRanges(77);
        one.change(SPLIT, 5, 17, 0);
        due.is("after a split left one", one.range(0, ALL, 999, 999, 0), 79);
        due.is("then none is left", one.range(0, ALL, 998, 998, 0), ROOM);
    }

    private static void over() {
        sentence("OVER (a live one of the street)");
        CountedBook book = withStreets(2);
        book.range(0, ALL, 100, 109, 0);
        book.range(0, ALL, 90, 99, 0);
        book.range(0, ALL, 110, 119, 0);
        due.is("over all three, the least", book.range(0, ALL, 99, 110, 7), OVER);
        due.is("over the second alone", book.range(0, ALL, 1, 90, 7), OVER - 1);
        due.is("over the third alone", book.range(0, ALL, 119, 999, 7), OVER - 2);
        due.is("THE DAY", book.count(THE_DAY), 0);
        due.is("up to all three", book.range(0, ALL, 1, 89, 7), 3);
        due.is("from all three", book.range(0, ALL, 120, 999, 7), 4);
        due.is("THE DAY", book.count(THE_DAY), 7);
        due.is("full of houses", book.holes(0), 999);
        for (int house : new int[] {1, 89, 90, 99, 100, 109, 110, 119, 120, 999}) {
            int range = house < 90 ? 3 : house < 100 ? 1 : house < 110 ? 0 : house < 120 ? 2 : 4;
            due.is("over house " + house, book.range(0, ALL, house, house, 7), OVER - range);
        }
        book.change(CLOSE, 0, 0, 8);
        due.is("over a closed one and live ones", book.range(0, ALL, 99, 110, 8), OVER - 1);
        due.is("over a closed one alone", book.range(0, ALL, 100, 109, 8), 5);
    }
}

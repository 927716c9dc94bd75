/** Promise 7: change, by kinds. */
public final class P07ChangeTest extends Sentences {
    public static void main(String[] args) {
        kindsAndDays();
        closes();
        splits();
        splitOfASide();
        splitRoom();
        joins();
        joinsOver();
        renumbers();
        removes();
        due.end();
    }

    private static void kindsAndDays() {
        CountedBook book = withRange(ALL, 1, 20);
        book.range(1, 0, 1, 20, 50);
        book.point(0, 3, 0);
        due.is("kind -1, OUTSIDE before UNKNOWN", book.change(-1, 99, 0, 50), OUTSIDE);
        due.is("kind 5, OUTSIDE before UNKNOWN", book.change(5, 99, 0, 50), OUTSIDE);
        for (int kind = 0; kind <= 4; kind++) {
            due.is("UNKNOWN before OUTSIDE, kind " + kind, book.change(kind, 99, 2, 1), UNKNOWN);
            due.is("a of -1, kind " + kind, book.change(kind, -1, 2, 50), UNKNOWN);
            due.is("a day before, kind " + kind, book.change(kind, 0, 2, 49), OUTSIDE);
            due.is("day 1000001, kind " + kind, book.change(kind, 0, 2, 1000001), OUTSIDE);
        }
        due.is("nothing has changed", book.count(2) * 10 + book.count(3), 21);
        due.is("THE DAY", book.count(4), 50);
        due.is("the last day", book.change(REMOVE, 0, 0, 1000000), 1);
        due.is("THE DAY", book.count(4), 1000000);
    }

    private static void closes() {
        CountedBook book = withRange(ALL, 1, 20);
        book.range(0, 0, 21, 30, 0);
        book.point(0, 3, 0);
        book.point(1, 25, 0);
        book.point(0, 3, 1);
        book.point(0, 5, 0);
        book.change(REMOVE, 3, 0, 1);
        due.is("close, b is free", book.change(CLOSE, 0, -5, 7), 2);
        due.is("live ranges", book.count(2), 1);
        due.is("live points", book.count(3), 1);
        due.is("THE DAY", book.count(4), 7);
        due.is("the day before", book.at(0, 3, 0, 6), 0);
        due.is("that day", book.at(0, 3, 0, 7), NONE);
        due.is("its range", book.where(0, 3, 7), 0);
        due.is("again", book.change(CLOSE, 0, 0, 7), STATE);
        due.is("OUTSIDE before STATE", book.change(CLOSE, 0, 0, 6), OUTSIDE);
        due.is("one without points", book.change(CLOSE, book.range(0, 0, 40, 41, 8), 0, 8), 0);
    }

    private static void splits() {
        CountedBook book = withRange(ALL, 1, 20);
        book.point(0, 9, 0);
        book.point(0, 10, 0);
        book.point(0, 20, 0);
        book.point(0, 1, 0);
        book.point(0, 2, 0);
        book.change(REMOVE, 4, 0, 0);
        due.is("at its lowest", book.change(SPLIT, 0, 1, 5), OUTSIDE);
        due.is("above its highest", book.change(SPLIT, 0, 21, 5), OUTSIDE);
        due.is("THE DAY", book.count(4), 0);
        due.is("at 10", book.change(SPLIT, 0, 10, 5), 4);
        due.is("THE DAY", book.count(4), 5);
        due.is("live ranges", book.count(2), 2);
        due.is("live points", book.count(3), 4);
        due.is("range of 9", book.where(0, 3, 0), 1);
        due.is("range of 10", book.where(1, 3, 0), 2);
        due.is("range of 20", book.where(2, 3, 0), 2);
        due.is("range of 1", book.where(3, 3, 0), 1);
        due.is("range of the removed one", book.where(4, 3, 0), 0);
        due.is("again", book.change(SPLIT, 0, 10, 5), STATE);
        due.is("again, OUTSIDE before STATE", book.change(SPLIT, 0, 21, 5), OUTSIDE);
        due.is("10 is not in the lower part", book.point(1, 10, 1), OUTSIDE);
        due.is("9 is in the lower part", book.point(1, 9, 1), 5);
        due.is("9 is not in the upper part", book.point(2, 9, 2), OUTSIDE);
        due.is("20 is in the upper part", book.point(2, 20, 1), 6);
        due.is("the point lies where it lay", book.at(0, 10, 0, 3), 1);
        due.is("the point lies where it lay", book.at(0, 10, 0, 5), 1);
        due.is("at its highest", book.change(SPLIT, 2, 20, 5), 3);
        due.is("one house is not split", book.change(SPLIT, 4, 20, 5), OUTSIDE);
        due.is("just above its lowest", book.change(SPLIT, 1, 2, 5), 3);
        due.is("holes", book.holes(0), 16);
    }

    private static void splitOfASide() {
        CountedBook book = withStreets(1);
        book.range(0, 1, 20, 30, 0);
        due.is("its lowest house is 21", book.change(SPLIT, 0, 21, 0), OUTSIDE);
        due.is("its highest house is 29", book.change(SPLIT, 0, 30, 0), OUTSIDE);
        book.point(0, 23, 0);
        due.is("at an even house", book.change(SPLIT, 0, 22, 0), 1);
        due.is("holes", book.holes(0), 4);
        due.is("the lower part has one house", book.change(SPLIT, 1, 22, 0), OUTSIDE);
        due.is("the upper part begins at 23", book.change(SPLIT, 2, 23, 0), OUTSIDE);
        due.is("the upper part ends at 29", book.change(SPLIT, 2, 29, 0), 1);
        due.is("even ones are free", book.range(0, 2, 20, 30, 0), 5);
    }

    private static void splitRoom() {
        CountedBook book = withRanges(80);
        due.is("no room", book.change(SPLIT, 0, 2, 3), ROOM);
        due.is("it is live still", book.count(2), 80);
        due.is("THE DAY", book.count(4), 0);
        book.change(CLOSE, 1, 0, 0);
        due.is("STATE before ROOM", book.change(SPLIT, 1, 5, 3), STATE);
        CountedBook next = withStreets(1);
        for (int r = 0; r < 78; r++) {
            next.range(0, 0, 3 * r + 1, 3 * r + 2, 0);
        }
        due.is("room for the two", next.change(SPLIT, 0, 2, 0), 0);
        due.is("the last number", next.point(79, 2, 0), 0);
        CountedBook tight = withStreets(1);
        for (int r = 0; r < 79; r++) {
            tight.range(0, 0, 3 * r + 1, 3 * r + 2, 0);
        }
        due.is("room for one alone", tight.change(SPLIT, 0, 2, 0), ROOM);
    }

    private static void joins() {
        CountedBook book = withRange(ALL, 1, 20);
        book.range(1, 0, 21, 40, 0);
        book.range(0, 0, 41, 50, 0);
        book.point(0, 3, 0);
        book.point(1, 25, 0);
        book.point(0, 4, 0);
        book.point(2, 41, 0);
        book.change(REMOVE, 2, 0, 1);
        book.change(CLOSE, 2, 0, 2);
        due.is("b is unknown", book.change(JOIN, 0, 4, 9), UNKNOWN);
        due.is("b is -1", book.change(JOIN, 0, -1, 9), UNKNOWN);
        due.is("itself", book.change(JOIN, 0, 0, 9), STATE);
        due.is("join", book.change(JOIN, 0, 1, 10), 1);
        due.is("THE DAY", book.count(4), 10);
        due.is("live ranges", book.count(2), 2);
        due.is("its range", book.where(0, 3, 10), 0);
        due.is("its street before", book.where(0, 0, 9), 0);
        due.is("its street then", book.where(0, 0, 10), 1);
        due.is("its house then", book.where(0, 1, 10), 3);
        due.is("it is numbered anew in it", book.change(RENUMBER, 0, 5, 11), 1);
        due.is("a gone", book.change(JOIN, 0, 2, 11), STATE);
        due.is("b gone", book.change(JOIN, 2, 0, 11), STATE);
        due.is("both are one of them", book.range(1, 0, 1, 2, 11), OVER);
        due.is("a closed range did not go along", book.range(1, 0, 45, 45, 11), 3);
        due.is("without ranges", book.change(JOIN, 2, 1, 12), 0);
        due.is("all of it", book.holes(2), 39);
    }

    private static void joinsOver() {
        CountedBook book = withStreets(3);
        book.range(1, 0, 90, 99, 0);
        book.range(0, 1, 1, 9, 0);
        book.range(1, 2, 1, 20, 0);
        book.range(0, 0, 30, 40, 0);
        book.range(1, 0, 35, 35, 0);
        book.range(1, 1, 9, 19, 0);
        due.is("the least of b", book.change(JOIN, 0, 1, 4), OVER - 4);
        due.is("the least of b, the other way", book.change(JOIN, 1, 0, 4), OVER - 1);
        due.is("THE DAY", book.count(4), 0);
        due.is("nothing has gone", book.range(0, 0, 50, 51, 0), 6);
        book.change(CLOSE, 4, 0, 4);
        due.is("the next one", book.change(JOIN, 0, 1, 4), OVER - 5);
        due.is("a street that is gone, STATE before OVER", stateBeforeOver(), STATE);
        book.change(CLOSE, 1, 0, 4);
        due.is("closed ones are not in the way", book.change(JOIN, 0, 1, 4), 0);
    }

    private static int stateBeforeOver() {
        CountedBook book = withRange(ALL, 1, 20);
        book.alias(1, 0, 0);
        return book.change(JOIN, 0, 1, 0);
    }

    private static void renumbers() {
        CountedBook book = withRange(ALL, 1, 20);
        book.range(0, 1, 21, 29, 0);
        book.point(0, 3, 0);
        book.point(0, 5, 1);
        book.point(1, 21, 0);
        due.is("not in its range", book.change(RENUMBER, 0, 21, 4), OUTSIDE);
        due.is("not of its side", book.change(RENUMBER, 2, 22, 4), OUTSIDE);
        due.is("itself", book.change(RENUMBER, 0, 3, 4), STATE);
        due.is("another extra is there", book.change(RENUMBER, 0, 5, 4), 1);
        due.is("THE DAY", book.count(4), 4);
        due.is("before", book.where(0, 1, 3), 3);
        due.is("then", book.where(0, 1, 4), 5);
        book.point(0, 3, 0);
        due.is("a live one is there", book.change(RENUMBER, 0, 3, 5), STATE);
        due.is("THE DAY", book.count(4), 4);
        book.change(REMOVE, 3, 0, 5);
        due.is("it is removed", book.change(RENUMBER, 0, 3, 5), 1);
        due.is("a removed one", book.change(RENUMBER, 3, 4, 5), STATE);
        due.is("a removed one, OUTSIDE before STATE", book.change(RENUMBER, 3, 21, 5), OUTSIDE);
        book.change(CLOSE, 1, 0, 6);
        due.is("a closed one", book.change(RENUMBER, 2, 23, 6), STATE);
        book.change(SPLIT, 0, 4, 7);
        due.is("not in its part", book.change(RENUMBER, 0, 4, 7), OUTSIDE);
        due.is("in its part", book.change(RENUMBER, 0, 1, 7), 1);
    }

    private static void removes() {
        CountedBook book = withRange(ALL, 1, 20);
        book.point(0, 3, 0);
        book.point(0, 3, 1);
        due.is("remove, b is free", book.change(REMOVE, 0, -9, 6), 1);
        due.is("live points", book.count(3), 1);
        due.is("THE DAY", book.count(4), 6);
        due.is("the day before", book.at(0, 3, 0, 5), 0);
        due.is("that day", book.at(0, 3, 0, 6), NONE);
        due.is("again", book.change(REMOVE, 0, 0, 6), STATE);
        due.is("again, OUTSIDE before STATE", book.change(REMOVE, 0, 0, 5), OUTSIDE);
        book.change(CLOSE, 0, 0, 7);
        due.is("a closed one", book.change(REMOVE, 1, 0, 7), STATE);
    }
}

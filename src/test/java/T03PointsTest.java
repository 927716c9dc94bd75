/** Terms: points, their houses and extras, the most of them. */
public final class T03PointsTest extends Sentences {
    public static void main(String[] args) {
        atMost();
        atMostOfAllThatThereWere();
        atMostOverRanges();
        extras();
        housesInTheirRange();
        numbers();
        due.end();
    }

    private static void atMost() {
        sentence("POINTS (120 at most, likewise)");
        CountedBook book = withPoints(119);
        due.is("the 120th", book.point(0, 20, 25), 119);
        due.is("a 121st", book.point(0, 20, 24), ROOM);
        due.is("live points", book.count(LIVE_POINTS), 120);
        due.is("the 120th's house", book.where(119, HOUSE, 0), 20);
        due.is("a 121st's house", book.where(120, HOUSE, 0), UNKNOWN);
        due.is("the 120th on the round", book.order(119), 26 + 26 + 15);
        due.is("a 121st on the round", book.order(120), UNKNOWN);
        due.is("the 120th gets another house", book.change(RENUMBER, 119, 19, 0), 1);
        due.is("a 121st gets another house", book.change(RENUMBER, 120, 19, 0), UNKNOWN);
        due.is("the 120th is removed", book.change(REMOVE, 119, 0, 0), 1);
        due.is("a 121st is removed", book.change(REMOVE, 120, 0, 0), UNKNOWN);
    }

    private static void atMostOfAllThatThereWere() {
        sentence("POINTS (120 at most, likewise)");
        CountedBook removed = withRange(ALL, 1, 20);
        for (int p = 0; p < 120; p++) {
            due.is("point " + p, removed.point(0, 3, 0), p);
            due.is("it is removed", removed.change(REMOVE, p, 0, p), 1);
        }
        due.is("live points", removed.count(LIVE_POINTS), 0);
        due.is("a 121st", removed.point(0, 3, 0), ROOM);
        CountedBook closed = withPoints(120);
        due.is("all are closed", closed.change(CLOSE, 0, 0, 5), 120);
        due.is("a range more", closed.range(0, ALL, 1, 20, 5), 1);
        due.is("a 121st", closed.point(1, 3, 0), ROOM);
        due.is("live points", closed.count(LIVE_POINTS), 0);
    }

    private static void atMostOverRanges() {
        sentence("POINTS (120 at most, likewise)");
        CountedBook book = withRanges(80);
        for (int p = 0; p < 120; p++) {
            due.is("point " + p, book.point(p % 80, 3 * (p % 80) + 1, p / 80), p);
        }
        for (int r = 0; r < 80; r++) {
            due.is("a 121st in range " + r, book.point(r, 3 * r + 2, 0), ROOM);
        }
    }

    private static void extras() {
        sentence("with a HOUSE in it and an EXTRA 0 .. 25");
        CountedBook book = withRange(ALL, 1, 20);
        for (int extra : new int[] {-1, 26, 27, LEAST, MOST}) {
            due.is("extra " + extra, book.point(0, 3, extra), OUTSIDE);
        }
        due.is("live points", book.count(LIVE_POINTS), 0);
        for (int extra = 0; extra <= 25; extra++) {
            due.is("extra " + extra, book.point(0, 3, extra), extra);
            due.is("it is that one", book.where(extra, EXTRA, 0), extra);
            due.is("it lies there", book.at(0, 3, extra, 0), extra);
        }
        due.is("one hole fewer", book.holes(0), 19);
    }

    private static void housesInTheirRange() {
        sentence("with a HOUSE in it and an EXTRA 0 .. 25");
        CountedBook book = withStreets(1);
        book.range(0, ALL, 1, 1, 0);
        book.range(0, ALL, 999, 999, 0);
        due.is("house 0", book.point(0, 0, 0), OUTSIDE);
        due.is("house 1", book.point(0, 1, 0), 0);
        due.is("house 2", book.point(0, 2, 0), OUTSIDE);
        due.is("house 998", book.point(1, 998, 0), OUTSIDE);
        due.is("house 999", book.point(1, 999, 0), 1);
        due.is("house 1000", book.point(1, 1000, 0), OUTSIDE);
        due.is("a house of another range", book.point(0, 999, 0), OUTSIDE);
    }

    private static void numbers() {
        sentence("All are numbered 0, 1, .. of their kind, and never get another number");
        CountedBook book = withRange(ALL, 1, 20);
        due.is("a refused one", book.point(0, 21, 0), OUTSIDE);
        due.is("the first", book.point(0, 3, 0), 0);
        due.is("a refused one", book.point(0, 3, 0), STATE);
        due.is("the second", book.point(0, 4, 0), 1);
        book.change(REMOVE, 0, 0, 1);
        due.is("where the first was", book.point(0, 3, 0), 2);
        book.change(RENUMBER, 1, 5, 2);
        due.is("numbered anew", book.at(0, 5, 0, 2), 1);
        book.change(SPLIT, 0, 5, 3);
        due.is("after a split", book.at(0, 5, 0, 3), 1);
        book.change(JOIN, 0, 1, 4);
        due.is("after a join", book.at(1, 5, 0, 4), 1);
        due.is("the third", book.at(1, 3, 0, 4), 2);
        due.is("the next", book.point(1, 1, 0), 3);
    }
}

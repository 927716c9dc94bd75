/** Terms: what is live, and till when. */
public final class T05LiveTest extends Sentences {
    public static void main(String[] args) {
        rangeTillItIsClosed();
        rangeTillItIsSplit();
        rangeThatGoesAlong();
        pointTillItIsRemoved();
        pointTillItsRangeIsClosed();
        pointOfASplitOrJoinedRange();
        due.end();
    }

    private static void rangeTillItIsClosed() {
        sentence("A range is LIVE till it is closed");
        CountedBook book = withPoint();
        due.is("live ranges", book.count(LIVE_RANGES), 1);
        book.change(REMOVE, 0, 0, 1);
        due.is("live without points", book.count(LIVE_RANGES), 1);
        due.is("its houses", book.holes(0), 20);
        book.change(CLOSE, 0, 0, 2);
        due.is("live ranges when closed", book.count(LIVE_RANGES), 0);
        due.is("its houses when closed", book.holes(0), 0);
        due.is("a point of it when closed", book.point(0, 3, 0), STATE);
        due.is("closed once more", book.change(CLOSE, 0, 0, 2), STATE);
        due.is("split when closed", book.change(SPLIT, 0, 10, 2), STATE);
        due.is("its houses are free", book.range(0, ALL, 1, 20, 2), 1);
        due.is("it is closed all the same", book.point(0, 3, 0), STATE);
    }

    private static void rangeTillItIsSplit() {
        sentence("it is live no more");
        CountedBook book = withPoint();
        book.change(SPLIT, 0, 10, 2);
        due.is("live ranges", book.count(LIVE_RANGES), 2);
        due.is("their houses", book.holes(0), 19);
        due.is("a point of it", book.point(0, 4, 0), STATE);
        due.is("split once more", book.change(SPLIT, 0, 5, 2), STATE);
        due.is("closed", book.change(CLOSE, 0, 0, 2), STATE);
        due.is("a point of the lower part", book.point(1, 4, 0), 1);
        due.is("a point of the upper part", book.point(2, 10, 0), 2);
        due.is("the upper part is closed", book.change(CLOSE, 2, 0, 3), 1);
        due.is("the lower part is live", book.point(1, 5, 0), 3);
    }

    private static void rangeThatGoesAlong() {
        sentence("2 street a goes into street b with its live ranges and points");
        CountedBook book = withPoint();
        book.range(0, ALL, 21, 30, 0);
        book.change(CLOSE, 1, 0, 1);
        book.change(JOIN, 0, 1, 2);
        due.is("live ranges", book.count(LIVE_RANGES), 1);
        due.is("a point more of it", book.point(0, 4, 0), 1);
        due.is("it lies in the other street", book.where(1, STREET, 2), 1);
        due.is("a closed one did not go along", book.point(1, 21, 0), STATE);
        due.is("its houses are free there", book.range(1, ALL, 21, 30, 2), 2);
        due.is("split there", book.change(SPLIT, 0, 4, 3), 2);
        due.is("closed there", book.change(CLOSE, 4, 0, 3), 1);
    }

    private static void pointTillItIsRemoved() {
        sentence("a point is LIVE till it is removed");
        CountedBook book = withPoint();
        due.is("live points", book.count(LIVE_POINTS), 1);
        due.is("a second one there", book.point(0, 3, 0), STATE);
        book.change(REMOVE, 0, 0, 1);
        due.is("live points when removed", book.count(LIVE_POINTS), 0);
        due.is("on the round", book.order(0), STATE);
        due.is("nearest", book.near(0, 3), NONE);
        due.is("its house", book.holes(0), 20);
        due.is("removed once more", book.change(REMOVE, 0, 0, 1), STATE);
        due.is("numbered anew", book.change(RENUMBER, 0, 4, 1), STATE);
        due.is("closed with its range", book.change(CLOSE, 0, 0, 1), 0);
        due.is("its extra", book.where(0, EXTRA, 1), 0);
        due.is("its range", book.where(0, RANGE, 1), 0);
    }

    private static void pointTillItsRangeIsClosed() {
        sentence("a point is LIVE till it is removed, or its range closed");
        CountedBook book = withPoint();
        book.range(0, ALL, 21, 30, 0);
        book.point(1, 21, 0);
        book.change(CLOSE, 0, 0, 1);
        due.is("live points", book.count(LIVE_POINTS), 1);
        due.is("on the round", book.order(0), STATE);
        due.is("of another range, on the round", book.order(1), 0);
        due.is("nearest", book.near(0, 3), 1);
        due.is("removed", book.change(REMOVE, 0, 0, 1), STATE);
        due.is("numbered anew", book.change(RENUMBER, 0, 4, 1), STATE);
    }

    private static void pointOfASplitOrJoinedRange() {
        sentence("its live points belong to them");
        CountedBook book = withPoint();
        book.change(SPLIT, 0, 3, 1);
        due.is("live points after a split", book.count(LIVE_POINTS), 1);
        due.is("on the round after a split", book.order(0), 0);
        book.change(JOIN, 0, 1, 2);
        due.is("live points after a join", book.count(LIVE_POINTS), 1);
        due.is("on the round after a join", book.order(0), 0);
        due.is("nearest after a join", book.near(0, 20), 0);
        due.is("the other part is closed", book.change(CLOSE, 1, 0, 3), 0);
        due.is("live points", book.count(LIVE_POINTS), 1);
        due.is("its part is closed", book.change(CLOSE, 2, 0, 3), 1);
        due.is("live points", book.count(LIVE_POINTS), 0);
    }
}

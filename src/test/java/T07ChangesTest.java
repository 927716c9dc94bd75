/** Terms: the changes by kind, at the edges of what they are told of. */
public final class T07ChangesTest extends Sentences {
    public static void main(String[] args) {
        kinds();
        unknownOnes();
        closes();
        closesAll();
        splitsWhere();
        splitsWhereOfASide();
        splitsUpToSingleHouses();
        splitParts();
        splitPoints();
        joins();
        joinsOver();
        joinsOverTheLast();
        renumbersWhere();
        renumbersWhatIsThere();
        removes();
        due.end();
    }

    private static void kinds() {
        sentence("OUTSIDE first for another kind");
        for (int kind : new int[] {-1, 5, 6, LEAST, MOST}) {
            CountedBook book = withPoint();
            due.is("kind " + kind, book.change(kind, 0, 5, 0), OUTSIDE);
            due.is("kind " + kind + " of nothing known", book.change(kind, 99, 99, 0), OUTSIDE);
            due.is("kind " + kind + " on no day", book.change(kind, 0, 5, -1), OUTSIDE);
            due.is("kind " + kind + " of nothing known on no day", book.change(kind, -1, -1, -1), OUTSIDE);
            due.is("kind " + kind + " in an empty book", new CountedBook().change(kind, 0, 0, 0), OUTSIDE);
            due.is("live points", book.count(LIVE_POINTS), 1);
        }
        int[] answers = {1, 1, 1, 1, 1};
        for (int kind = 0; kind <= 4; kind++) {
            int b = kind == JOIN ? 1 : 5;
            due.is("kind " + kind, withPoint().change(kind, 0, b, 0), answers[kind]);
            due.is("kind " + kind + " in an empty book", new CountedBook().change(kind, 0, b, 0), UNKNOWN);
        }
    }

    private static void unknownOnes() {
        sentence("UNKNOWN (there is no such place, street, range, point)");
        int[] known = {1, 1, 4, 1, 1};
        for (int kind = 0; kind <= 4; kind++) {
            for (int a : new int[] {-1, known[kind], 32, 80, 120, LEAST, MOST}) {
                CountedBook book = withPoint();
                due.is("kind " + kind + ", a = " + a, book.change(kind, a, 3, 0), UNKNOWN);
                due.is("kind " + kind + ", a = " + a + ", no day", book.change(kind, a, 3, -1), UNKNOWN);
            }
        }
        for (int b : new int[] {-1, 4, 32, LEAST, MOST}) {
            CountedBook book = withPoint();
            due.is("join into " + b, book.change(JOIN, 0, b, 0), UNKNOWN);
            due.is("join into " + b + ", no day", book.change(JOIN, 0, b, -1), UNKNOWN);
        }
        due.is("join into the last that there is", withPoint().change(JOIN, 0, 3, 0), 1);
    }

    private static void closes() {
        sentence("0 range a is closed, and its live points with it");
        for (int b : new int[] {LEAST, -1, 0, 1, 1000, MOST}) {
            due.is("close, b = " + b + " says nothing", withPoint().change(CLOSE, 0, b, 0), 1);
        }
        CountedBook book = withPoint();
        book.range(0, ALL, 21, 30, 0);
        book.range(0, ALL, 31, 40, 0);
        book.point(1, 21, 0);
        book.point(0, 3, 1);
        book.point(0, 4, 0);
        book.change(REMOVE, 3, 0, 1);
        due.is("two live ones and a removed one", book.change(CLOSE, 0, 0, 2), 2);
        due.is("live points", book.count(LIVE_POINTS), 1);
        due.is("the one of the other range", book.order(1), 0);
        due.is("one without points", book.change(CLOSE, 2, 0, 2), 0);
        due.is("one once more", book.change(CLOSE, 0, 0, 2), STATE);
        due.is("one of which all points are removed", closeOfRemoved(), 0);
    }

    private static int closeOfRemoved() {
        CountedBook book = withPoint();
        book.change(REMOVE, 0, 0, 1);
        return book.change(CLOSE, 0, 0, 2);
    }

    private static void closesAll() {
        sentence("how many points it closed (0, 4)");
        CountedBook book = withPoints(120);
        due.is("all 120", book.change(CLOSE, 0, 0, 1), 120);
        due.is("live points", book.count(LIVE_POINTS), 0);
        due.is("the first then", book.where(0, HOUSE, 1), NONE);
        due.is("the last then", book.where(119, HOUSE, 1), NONE);
        due.is("the last before", book.where(119, HOUSE, 0), 5);
    }

    private static void splitsWhere() {
        sentence("1 range a is split at house b (above its lowest, not above its highest house)");
        for (int b : new int[] {LEAST, -1, 0, 9, 10, 20, 21, 999, 1000, MOST}) {
            CountedBook book = withRange(ALL, 10, 19);
            due.is("10 to 19 at " + b, book.change(SPLIT, 0, b, 1), OUTSIDE);
            due.is("live ranges", book.count(LIVE_RANGES), 1);
            due.is("THE DAY", book.count(THE_DAY), 0);
        }
        for (int b : new int[] {11, 12, 18, 19}) {
            CountedBook book = withRange(ALL, 10, 19);
            due.is("10 to 19 at " + b, book.change(SPLIT, 0, b, 1), 0);
            due.is("live ranges", book.count(LIVE_RANGES), 2);
            due.is("houses", book.holes(0), 10);
        }
        due.is("1 to 999 at 1", withRange(ALL, 1, 999).change(SPLIT, 0, 1, 0), OUTSIDE);
        due.is("1 to 999 at 2", withRange(ALL, 1, 999).change(SPLIT, 0, 2, 0), 0);
        due.is("1 to 999 at 999", withRange(ALL, 1, 999).change(SPLIT, 0, 999, 0), 0);
        due.is("1 to 999 at 1000", withRange(ALL, 1, 999).change(SPLIT, 0, 1000, 0), OUTSIDE);
    }

    private static void splitsWhereOfASide() {
        sentence("(above its lowest, not above its highest house)");
        int[][] ranges = {{1, 11, 19}, {1, 10, 20}, {2, 10, 20}, {2, 9, 21}};
        int[] lowest = {11, 11, 10, 10};
        int[] highest = {19, 19, 20, 20};
        for (int r = 0; r < ranges.length; r++) {
            for (int b = 7; b <= 23; b++) {
                CountedBook book = withRange(ranges[r][0], ranges[r][1], ranges[r][2]);
                int want = b > lowest[r] && b <= highest[r] ? 0 : OUTSIDE;
                due.is("range " + r + " at " + b, book.change(SPLIT, 0, b, 0), want);
                due.is("live ranges", book.count(LIVE_RANGES), want == 0 ? 2 : 1);
                due.is("houses", book.holes(0), (highest[r] - lowest[r]) / 2 + 1);
            }
        }
    }

    private static void splitsUpToSingleHouses() {
        sentence("(above its lowest, not above its highest house)");
        for (int side = 0; side <= 2; side++) {
            int house = side == EVEN ? 8 : 7;
            for (int b = house - 2; b <= house + 2; b++) {
                due.is("one house, side " + side + ", at " + b, withRange(side, house, house).change(SPLIT, 0, b, 0),
                        OUTSIDE);
            }
        }
        CountedBook two = withRange(ALL, 7, 8);
        due.is("two houses", two.change(SPLIT, 0, 8, 0), 0);
        due.is("the lower of two", two.change(SPLIT, 1, 8, 0), OUTSIDE);
        due.is("the upper of two", two.change(SPLIT, 2, 8, 0), OUTSIDE);
        CountedBook odd = withRange(ODD, 7, 9);
        due.is("two odd houses at the even one", odd.change(SPLIT, 0, 8, 0), 0);
        due.is("the lower of two odd ones", odd.change(SPLIT, 1, 8, 0), OUTSIDE);
        due.is("the upper of two odd ones", odd.change(SPLIT, 2, 9, 0), OUTSIDE);
    }

    private static void splitParts() {
        sentence("two new ones of its side come in its place, from its lowest house to the one before b, and from b on");
        CountedBook all = withRange(ALL, 10, 19);
        all.change(SPLIT, 0, 15, 1);
        part(all, 1, 9, false);
        part(all, 1, 10, true);
        part(all, 1, 14, true);
        part(all, 1, 15, false);
        part(all, 2, 14, false);
        part(all, 2, 15, true);
        part(all, 2, 19, true);
        part(all, 2, 20, false);
        CountedBook odd = withRange(ODD, 11, 19);
        odd.change(SPLIT, 0, 15, 1);
        part(odd, 1, 11, true);
        part(odd, 1, 12, false);
        part(odd, 1, 13, true);
        part(odd, 1, 14, false);
        part(odd, 1, 15, false);
        part(odd, 2, 13, false);
        part(odd, 2, 15, true);
        part(odd, 2, 16, false);
        part(odd, 2, 19, true);
        due.is("even ones are free all the same", odd.range(0, EVEN, 10, 20, 1), 3);
        due.is("another range of the street stays", odd.point(3, 10, 0) >= 0 ? 1 : 0, 1);
    }

    private static void part(CountedBook book, int range, int house, boolean in) {
        int answer = book.point(range, house, 7);
        due.is("house " + house + " of range " + range, answer >= 0 ? 0 : answer, in ? 0 : OUTSIDE);
    }

    private static void splitPoints() {
        sentence("its live points belong to them");
        CountedBook book = withRange(ALL, 10, 19);
        book.range(0, ALL, 20, 29, 0);
        int[] houses = {10, 14, 14, 15, 15, 19};
        for (int p = 0; p < houses.length; p++) {
            book.point(0, houses[p], p);
        }
        book.point(1, 20, 0);
        book.change(REMOVE, 2, 0, 0);
        due.is("how many it gave", book.change(SPLIT, 0, 15, 1), 5);
        int[] ranges = {2, 2, 0, 3, 3, 3, 1};
        for (int p = 0; p < ranges.length; p++) {
            due.is("range of point " + p, book.where(p, RANGE, 1), ranges[p]);
        }
        due.is("live points", book.count(LIVE_POINTS), 6);
        due.is("one numbered anew first", splitOfRenumbered(), 2);
        due.is("one without points", withRange(ALL, 1, 9).change(SPLIT, 0, 5, 0), 0);
        due.is("all 120", withPoints(120).change(SPLIT, 0, 3, 0), 120);
    }

    private static int splitOfRenumbered() {
        CountedBook book = withPoint();
        book.change(RENUMBER, 0, 12, 1);
        book.change(SPLIT, 0, 10, 2);
        return book.where(0, RANGE, 2);
    }

    private static void joins() {
        sentence("2 street a goes into street b with its live ranges and points");
        CountedBook empty = withStreets(2);
        due.is("one without ranges into another", empty.change(JOIN, 0, 1, 3), 0);
        due.is("THE DAY", empty.count(THE_DAY), 3);
        due.is("it has gone", empty.range(0, ALL, 1, 2, 3), STATE);
        due.is("itself", withStreets(2).change(JOIN, 1, 1, 0), STATE);
        due.is("itself with live ranges, STATE and not OVER", withPoint().change(JOIN, 0, 0, 0), STATE);
        due.is("all 120", withPoints(120).change(JOIN, 0, 3, 0), 120);
        CountedBook book = withPoint();
        book.range(1, ALL, 21, 30, 0);
        book.point(1, 21, 0);
        book.point(0, 4, 0);
        book.change(REMOVE, 2, 0, 0);
        due.is("its live points alone", book.change(JOIN, 0, 1, 1), 1);
        due.is("live points of both", book.count(LIVE_POINTS), 2);
        due.is("on the round of both", book.order(1), 1);
        due.is("back again", book.change(JOIN, 1, 0, 2), STATE);
        due.is("once more", book.change(JOIN, 0, 1, 2), STATE);
        due.is("both on", book.change(JOIN, 1, 2, 2), 2);
        due.is("a removed one did not go along", book.where(2, STREET, 2), NONE);
    }

    private static void joinsOver() {
        sentence("OVER (2: the least live range of b over one of a)");
        CountedBook book = withStreets(4);
        book.range(0, ALL, 11, 20, 0);
        book.range(1, ALL, 21, 30, 0);
        book.range(1, ODD, 1, 10, 0);
        book.range(0, ALL, 40, 49, 0);
        book.range(1, ALL, 49, 60, 0);
        book.range(1, ALL, 10, 11, 0);
        book.point(0, 11, 0);
        due.is("0 into 1", book.change(JOIN, 0, 1, 1), OVER - 4);
        due.is("1 into 0", book.change(JOIN, 1, 0, 1), OVER);
        due.is("THE DAY", book.count(THE_DAY), 0);
        due.is("its street", book.where(0, STREET, 1), 0);
        book.change(CLOSE, 4, 0, 1);
        due.is("0 into 1, the next", book.change(JOIN, 0, 1, 1), OVER - 5);
        book.change(CLOSE, 5, 0, 1);
        due.is("0 into 1, touching alone", book.change(JOIN, 0, 1, 1), 1);
        due.is("live ranges", book.count(LIVE_RANGES), 4);
        due.is("houses", book.holes(1), 34);
    }

    private static void joinsOverTheLast() {
        sentence("Less the least range that is over it");
        CountedBook book = withRanges(79);
        due.is("the 80th", book.range(1, ALL, 1, 1, 0), 79);
        due.is("the first of all is the least", book.change(JOIN, 1, 0, 0), OVER);
        due.is("the last of all is the least", book.change(JOIN, 0, 1, 0), OVER - 79);
        due.is("neither has gone", book.change(CLOSE, 79, 0, 0), 0);
        due.is("then it goes", book.change(JOIN, 0, 1, 0), 0);
    }

    private static void renumbersWhere() {
        sentence("3 point a gets house b, which is in its range");
        for (int b : new int[] {LEAST, -1, 0, 9, 10, 11, 12, 18, 19, 20, 21, 1000, MOST}) {
            CountedBook book = withRange(ODD, 11, 19);
            book.point(0, 15, 0);
            boolean in = b == 11 || b == 19;
            due.is("odd 11 to 19, to " + b, book.change(RENUMBER, 0, b, 1), in ? 1 : OUTSIDE);
            due.is("THE DAY", book.count(THE_DAY), in ? 1 : 0);
            due.is("its house", book.where(0, HOUSE, 1), in ? b : 15);
        }
        CountedBook book = withRange(ALL, 1, 999);
        book.point(0, 500, 0);
        due.is("to 0", book.change(RENUMBER, 0, 0, 0), OUTSIDE);
        due.is("to 1", book.change(RENUMBER, 0, 1, 0), 1);
        due.is("to 1000", book.change(RENUMBER, 0, 1000, 0), OUTSIDE);
        due.is("to 999", book.change(RENUMBER, 0, 999, 0), 1);
        CountedBook other = withPoint();
        other.range(0, ALL, 21, 30, 0);
        due.is("into another range of the street", other.change(RENUMBER, 0, 21, 0), OUTSIDE);
        other.change(SPLIT, 0, 10, 0);
        due.is("to the last of its part", other.change(RENUMBER, 0, 9, 0), 1);
        due.is("into the other part", other.change(RENUMBER, 0, 10, 0), OUTSIDE);
    }

    private static void renumbersWhatIsThere() {
        sentence("a live point is there already, also itself");
        CountedBook book = withPoint();
        book.point(0, 4, 0);
        book.point(0, 5, 1);
        due.is("its own house", book.change(RENUMBER, 0, 3, 1), STATE);
        due.is("another's house", book.change(RENUMBER, 0, 4, 1), STATE);
        due.is("THE DAY", book.count(THE_DAY), 0);
        due.is("another's house of another extra", book.change(RENUMBER, 0, 5, 1), 1);
        due.is("both are there", book.at(0, 5, 0, 1) * 10 + book.at(0, 5, 1, 1), 2);
        due.is("its new house", book.change(RENUMBER, 0, 5, 1), STATE);
        due.is("back to its old house", book.change(RENUMBER, 0, 3, 1), 1);
        book.change(REMOVE, 1, 0, 2);
        due.is("where one was removed", book.change(RENUMBER, 0, 4, 2), 1);
        due.is("where it was itself", book.point(0, 3, 0), 3);
        due.is("there is one again", book.change(RENUMBER, 0, 3, 2), STATE);
        book.range(1, ALL, 1, 20, 2);
        book.point(1, 8, 0);
        due.is("one of another street is there", book.change(RENUMBER, 0, 8, 2), 1);
    }

    private static void removes() {
        sentence("4 point a is removed");
        for (int b : new int[] {LEAST, -1, 0, 3, 1000, MOST}) {
            CountedBook book = withPoint();
            due.is("remove, b = " + b + " says nothing", book.change(REMOVE, 0, b, 1), 1);
            due.is("live points", book.count(LIVE_POINTS), 0);
            due.is("once more", book.change(REMOVE, 0, b, 1), STATE);
        }
        CountedBook book = withPoint();
        book.point(0, 3, 1);
        book.change(REMOVE, 0, 0, 1);
        due.is("the other one of the house", book.at(0, 3, 1, 1), 1);
        due.is("the removed one", book.at(0, 3, 0, 1), NONE);
        due.is("live ranges", book.count(LIVE_RANGES), 1);
        CountedBook closed = withPoint();
        closed.change(CLOSE, 0, 0, 1);
        due.is("one that is closed", closed.change(REMOVE, 0, 0, 1), STATE);
    }
}

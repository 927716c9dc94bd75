/** Terms: ranges, their sides and houses, what is in them, which are over one another, the most of them. */
public final class T02RangesTest extends Sentences {
    public static void main(String[] args) {
        atMost();
        atMostOfAllThatThereWere();
        atMostOfAllThatWereSplit();
        atMostOverStreets();
        sides();
        houses();
        noHouse();
        inARange();
        overAtTheEdges();
        overBySides();
        overOfOneStreetAlone();
        numbers();
        due.end();
    }

    private static void atMost() {
        sentence("RANGES (80 at most, of all that there ever were)");
        CountedBook book = withRanges(79);
        due.is("the 80th", book.range(1, ALL, 1, 9, 0), 79);
        due.is("an 81st", book.range(1, ALL, 10, 19, 3), ROOM);
        due.is("an 81st of another street", book.range(2, ALL, 10, 19, 3), ROOM);
        due.is("THE DAY", book.count(THE_DAY), 0);
        due.is("live ranges", book.count(LIVE_RANGES), 80);
        due.is("a point of the 80th", book.point(79, 9, 0), 0);
        due.is("a point of an 81st", book.point(80, 9, 0), UNKNOWN);
        due.is("an 81st is closed", book.change(CLOSE, 80, 0, 0), UNKNOWN);
        due.is("the 80th is closed", book.change(CLOSE, 79, 0, 0), 1);
    }

    private static void atMostOfAllThatThereWere() {
        sentence("RANGES (80 at most, of all that there ever were)");
        CountedBook book = withStreets(1);
        for (int r = 0; r < 80; r++) {
            due.is("range " + r, book.range(0, ALL, 1, 9, r), r);
            due.is("it is closed", book.change(CLOSE, r, 0, r), 0);
        }
        due.is("live ranges", book.count(LIVE_RANGES), 0);
        due.is("an 81st", book.range(0, ALL, 1, 9, 80), ROOM);
        due.is("THE DAY", book.count(THE_DAY), 79);
    }

    private static void atMostOfAllThatWereSplit() {
        sentence("ROOM (1)");
        CountedBook book = withRanges(78);
        due.is("a split into the 79th and 80th", book.change(SPLIT, 0, 2, 1), 0);
        due.is("live ranges", book.count(LIVE_RANGES), 79);
        due.is("a point of the 79th", book.point(78, 1, 0), 0);
        due.is("a point of the 80th", book.point(79, 2, 0), 1);
        due.is("a split more", book.change(SPLIT, 1, 5, 2), ROOM);
        due.is("THE DAY", book.count(THE_DAY), 1);
        CountedBook odd = withRanges(79);
        due.is("a split into the 80th and 81st", odd.change(SPLIT, 0, 2, 1), ROOM);
        due.is("it is live still", odd.point(0, 2, 0), 0);
        due.is("the 80th", odd.range(0, ALL, 900, 900, 0), 79);
        due.is("a split into the 81st and 82nd", odd.change(SPLIT, 0, 2, 1), ROOM);
    }

    private static void atMostOverStreets() {
        sentence("RANGES (80 at most, of all that there ever were)");
        CountedBook book = withStreets(32);
        for (int r = 0; r < 80; r++) {
            due.is("range " + r, book.range(r % 32, ALL, 1 + r, 1 + r, 0), r);
        }
        for (int s = 0; s < 32; s++) {
            due.is("an 81st of street " + s, book.range(s, ALL, 500, 500, 0), ROOM);
        }
    }

    private static void sides() {
        sentence("a SIDE (0 all houses, 1 the odd, 2 the even ones)");
        for (int side : new int[] {-1, 3, 4, LEAST, MOST}) {
            due.is("side " + side, withStreets(1).range(0, side, 1, 8, 0), OUTSIDE);
        }
        int[] howMany = {8, 4, 4};
        for (int side = 0; side <= 2; side++) {
            CountedBook book = withStreets(1);
            due.is("side " + side, book.range(0, side, 1, 8, 0), 0);
            due.is("houses of side " + side, book.holes(0), howMany[side]);
            for (int house = 1; house <= 8; house++) {
                boolean fits = side == 0 || side == 1 && house % 2 == 1 || side == 2 && house % 2 == 0;
                due.is("side " + side + ", house " + house, book.point(0, house, 1) >= 0 ? 1 : 0, fits ? 1 : 0);
            }
        }
    }

    private static void houses() {
        sentence("houses from LOW to HIGH (1 .. 999)");
        int[][] outside = {{0, 5}, {-1, 5}, {LEAST, 5}, {5, 1000}, {5, MOST}, {1000, 1000}, {1000, 1001}, {0, 0},
            {-5, -1}, {0, 1000}, {LEAST, MOST}, {MOST, LEAST}, {MOST, MOST}, {LEAST, LEAST}, {1000, 5}, {5, 0}};
        for (int side = 0; side <= 2; side++) {
            for (int[] ends : outside) {
                CountedBook book = withStreets(1);
                due.is(side + ": " + ends[0] + " to " + ends[1], book.range(0, side, ends[0], ends[1], 0), OUTSIDE);
                due.is("live ranges", book.count(LIVE_RANGES), 0);
            }
        }
        int[][] inside = {{1, 1}, {1, 2}, {1, 999}, {998, 999}, {999, 999}};
        for (int[] ends : inside) {
            CountedBook book = withStreets(1);
            due.is(ends[0] + " to " + ends[1], book.range(0, ALL, ends[0], ends[1], 0), 0);
            due.is("its houses", book.holes(0), ends[1] - ends[0] + 1);
        }
        CountedBook sided = withStreets(1);
        due.is("odd 1 to 999", sided.range(0, ODD, 1, 999, 0), 0);
        due.is("even 1 to 999", sided.range(0, EVEN, 1, 999, 0), 1);
        due.is("odd house 1", sided.point(0, 1, 0), 0);
        due.is("odd house 999", sided.point(0, 999, 0), 1);
        due.is("even house 2", sided.point(1, 2, 0), 2);
        due.is("even house 998", sided.point(1, 998, 0), 3);
        due.is("even house 0", sided.point(1, 0, 0), OUTSIDE);
        due.is("even house 1000", sided.point(1, 1000, 0), OUTSIDE);
        due.is("the rest", sided.holes(0), 995);
    }

    private static void noHouse() {
        sentence("OUTSIDE (side, houses, no house is in it, day)");
        int[][] empty = {{0, 2, 1}, {0, 999, 1}, {0, 999, 998}, {1, 2, 1}, {1, 3, 1}, {1, 2, 2}, {1, 998, 998},
            {1, 4, 3}, {2, 2, 1}, {2, 4, 2}, {2, 1, 1}, {2, 3, 3}, {2, 999, 999}, {2, 3, 2}};
        for (int[] range : empty) {
            CountedBook book = withStreets(1);
            String name = "side " + range[0] + ", " + range[1] + " to " + range[2];
            due.is(name, book.range(0, range[0], range[1], range[2], 0), OUTSIDE);
            due.is("live ranges", book.count(LIVE_RANGES), 0);
        }
        int[][] one = {{0, 2, 2}, {1, 1, 1}, {1, 2, 3}, {1, 3, 4}, {1, 2, 4}, {1, 999, 999}, {1, 998, 999}, {2, 2, 2},
            {2, 1, 2}, {2, 2, 3}, {2, 1, 3}, {2, 998, 998}, {2, 997, 999}};
        for (int[] range : one) {
            CountedBook book = withStreets(1);
            String name = "side " + range[0] + ", " + range[1] + " to " + range[2];
            due.is(name, book.range(0, range[0], range[1], range[2], 0), 0);
            due.is("houses of " + name, book.holes(0), 1);
        }
    }

    private static void inARange() {
        sentence("a house is IN it, if it is of that side and not outside these");
        int[][] ranges = {{0, 11, 16}, {1, 11, 17}, {1, 10, 18}, {2, 10, 16}, {2, 11, 17}};
        int[][] first = {{10, 11}, {10, 11}, {10, 11}, {9, 10}, {11, 12}};
        int[][] last = {{16, 17}, {17, 18}, {17, 18}, {16, 17}, {16, 17}};
        for (int r = 0; r < ranges.length; r++) {
            CountedBook book = withRange(ranges[r][0], ranges[r][1], ranges[r][2]);
            due.is("below, range " + r, book.point(0, first[r][0], 0), OUTSIDE);
            due.is("its first, range " + r, book.point(0, first[r][1], 0), 0);
            due.is("its last, range " + r, book.point(0, last[r][0], 0), 1);
            due.is("above, range " + r, book.point(0, last[r][1], 0), OUTSIDE);
            due.is("far above, range " + r, book.point(0, MOST, 0), OUTSIDE);
            due.is("far below, range " + r, book.point(0, LEAST, 0), OUTSIDE);
        }
    }

    private static void overAtTheEdges() {
        sentence("RANGES are OVER one another, if some house is in both");
        CountedBook book = withRange(ALL, 10, 19);
        due.is("up to the one below", book.range(0, ALL, 5, 9, 0), 1);
        due.is("from the one above", book.range(0, ALL, 20, 24, 0), 2);
        due.is("up to its lowest", book.range(0, ALL, 10, 10, 0), OVER);
        due.is("from its highest", book.range(0, ALL, 19, 19, 0), OVER);
        due.is("inside", book.range(0, ALL, 12, 13, 0), OVER);
        due.is("the same", book.range(0, ALL, 10, 19, 0), OVER);
        due.is("around", book.range(0, ALL, 1, 999, 0), OVER);
        due.is("over the second alone", book.range(0, ALL, 1, 5, 0), OVER - 1);
        due.is("over the third alone", book.range(0, ALL, 24, 999, 0), OVER - 2);
        due.is("over the second and third", book.range(0, ALL, 9, 20, 0), OVER);
        due.is("below all", book.range(0, ALL, 1, 4, 0), 3);
        due.is("above all", book.range(0, ALL, 25, 999, 0), 4);
        due.is("live ranges", book.count(LIVE_RANGES), 5);
    }

    private static void overBySides() {
        sentence("RANGES are OVER one another, if some house is in both");
        due.is("odd and even of the same houses", withRange(ODD, 1, 9).range(0, EVEN, 1, 9, 0), 1);
        due.is("even and odd of the same houses", withRange(EVEN, 1, 9).range(0, ODD, 1, 9, 0), 1);
        due.is("odd and all", withRange(ODD, 1, 9).range(0, ALL, 9, 9, 0), OVER);
        due.is("all and odd", withRange(ALL, 9, 9).range(0, ODD, 1, 9, 0), OVER);
        due.is("even and all", withRange(EVEN, 2, 8).range(0, ALL, 8, 9, 0), OVER);
        due.is("all and even", withRange(ALL, 8, 9).range(0, EVEN, 2, 8, 0), OVER);
        due.is("odd and all, an even one between", withRange(ODD, 1, 9).range(0, ALL, 4, 4, 0), 1);
        due.is("even and all, an odd one between", withRange(EVEN, 2, 8).range(0, ALL, 5, 5, 0), 1);
        due.is("all and odd, only an even one in both", withRange(ALL, 5, 6).range(0, ODD, 6, 9, 0), 1);
        due.is("all and even, only an odd one in both", withRange(ALL, 5, 7).range(0, EVEN, 7, 9, 0), 1);
        due.is("odd ones up to an even end", withRange(ODD, 1, 10).range(0, ODD, 10, 20, 0), 1);
        due.is("odd ones up to an odd end", withRange(ODD, 1, 11).range(0, ODD, 11, 20, 0), OVER);
        due.is("odd ones, all from their even end", withRange(ODD, 1, 10).range(0, ALL, 10, 20, 0), 1);
        due.is("even ones, all up to their odd end", withRange(EVEN, 11, 20).range(0, ALL, 1, 11, 0), 1);
        due.is("even ones, all up to the next", withRange(EVEN, 11, 20).range(0, ALL, 1, 12, 0), OVER);
    }

    private static void overOfOneStreetAlone() {
        sentence("OVER (a live one of the street)");
        CountedBook book = withRange(ALL, 1, 20);
        due.is("of another street", book.range(1, ALL, 1, 20, 0), 1);
        due.is("of the street", book.range(1, ALL, 20, 30, 0), OVER - 1);
        book.change(CLOSE, 0, 0, 1);
        due.is("one that is closed", book.range(0, ALL, 1, 20, 1), 2);
        book.change(SPLIT, 2, 11, 2);
        due.is("the lower part of one that is split", book.range(0, ALL, 10, 10, 2), OVER - 3);
        due.is("the upper part of one that is split", book.range(0, ALL, 11, 11, 2), OVER - 4);
        book.change(CLOSE, 3, 0, 3);
        due.is("where a part was closed", book.range(0, ALL, 1, 10, 3), 5);
        book.change(JOIN, 1, 2, 4);
        due.is("one that came with a join", book.range(2, ALL, 20, 20, 4), OVER - 1);
        CountedBook many = withRanges(79);
        due.is("the 79th is the least", many.range(0, ALL, 3 * 78 + 2, 999, 0), OVER - 78);
        due.is("the first is the least", many.range(0, ALL, 1, 999, 0), OVER);
        due.is("the last two, the lesser", many.range(0, ALL, 3 * 77 + 2, 999, 0), OVER - 77);
    }

    private static void numbers() {
        sentence("All are numbered 0, 1, .. of their kind, and never get another number");
        CountedBook book = withStreets(2);
        due.is("a refused one", book.range(0, ALL, 0, 1, 0), OUTSIDE);
        due.is("the first", book.range(0, ALL, 1, 9, 0), 0);
        due.is("a refused one", book.range(0, ALL, 1, 9, 0), OVER);
        due.is("the second", book.range(0, ALL, 10, 19, 0), 1);
        book.change(CLOSE, 0, 0, 0);
        due.is("after a closed one", book.range(0, ALL, 1, 9, 0), 2);
        book.change(SPLIT, 1, 15, 0);
        due.is("the lower part is 3", book.point(3, 14, 0), 0);
        due.is("the upper part is 4", book.point(4, 15, 0), 1);
        book.change(JOIN, 0, 1, 0);
        due.is("after a join", book.range(1, ALL, 20, 29, 0), 5);
        due.is("the part is 3 after a join", book.where(0, RANGE, 0), 3);
        due.is("the part is 4 after a join", book.where(1, RANGE, 0), 4);
    }
}

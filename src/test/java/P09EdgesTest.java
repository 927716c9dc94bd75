/** Promise 9, at its edges: who lies at a house on a day, and who left it less than 180 days before. */
public final class P09EdgesTest extends Sentences {
    public static void main(String[] args) {
        numbers();
        emptyAndFull();
        days();
        daysAtTheEnds();
        whoLiesThereComesFirst();
        onlyByAnotherHouse();
        closedOrRemovedByNow();
        leftOnTheDayItCame();
        latest();
        latestOfOnePoint();
        thenTheLeast();
        streetsThatMeanAnother();
        streetsThatMeanAnotherLater();
        latestOfTwoStreets();
        latestOfTwoStreetsOnADay();
        due.end();
    }

    private static void numbers() {
        sentence("UNKNOWN, OUTSIDE (house, extra, day 0 .. 1000000)");
        for (int n : new int[] {LEAST, -1, 4, 32, MOST}) {
            due.is("street " + n, withPoint().at(n, 3, 0, 0), UNKNOWN);
        }
        for (int house : new int[] {LEAST, -1, 0, 1000, MOST}) {
            due.is("house " + house, withPoint().at(0, house, 0, 0), OUTSIDE);
        }
        for (int extra : new int[] {LEAST, -1, 26, MOST}) {
            due.is("extra " + extra, withPoint().at(0, 3, extra, 0), OUTSIDE);
        }
        for (int day : new int[] {LEAST, -1, LAST_DAY + 1, MOST}) {
            due.is("day " + day, withPoint().at(0, 3, 0, day), OUTSIDE);
        }
        due.is("the least of all", withPoint().at(0, 1, 0, 0), NONE);
        due.is("the most of all", withPoint().at(3, 999, 25, LAST_DAY), NONE);
        CountedBook ends = withRange(ALL, 1, 999);
        ends.point(0, 1, 0);
        ends.point(0, 999, 25);
        due.is("house 1, extra 0, day 0", ends.at(0, 1, 0, 0), 0);
        due.is("house 999, extra 25, the last day", ends.at(0, 999, 25, LAST_DAY), 1);
        due.is("house 1, extra 1", ends.at(0, 1, 1, 0), NONE);
        due.is("house 2, extra 0", ends.at(0, 2, 0, 0), NONE);
        due.is("house 999, extra 24", ends.at(0, 999, 24, 0), NONE);
        due.is("house 998, extra 25", ends.at(0, 998, 25, 0), NONE);
    }

    private static void emptyAndFull() {
        sentence("The point at a house of what a street means on a day");
        due.is("in an empty book", new CountedBook().at(0, 1, 0, 0), UNKNOWN);
        due.is("of a street without ranges", withStreets(1).at(0, 1, 0, 0), NONE);
        due.is("of a range without points", withRange(ALL, 1, 20).at(0, 1, 0, 0), NONE);
        CountedBook full = withPoints(120);
        for (int p = 0; p < 120; p++) {
            due.is("point " + p, full.at(0, 1 + p / 26, p % 26, 0), p);
        }
        due.is("the next extra", full.at(0, 5, 16, 0), NONE);
        due.is("another street", full.at(1, 1, 0, 0), NONE);
    }

    private static void days() {
        sentence("less than 180 days before, or on that day");
        CountedBook book = withPoint();
        book.change(RENUMBER, 0, 5, 1000);
        int[] days = {0, 999, 1000, 1001, 1178, 1179, 1180, 1181, LAST_DAY};
        int[] old = {0, 0, 0, 0, 0, 0, NONE, NONE, NONE};
        int[] now = {NONE, NONE, 0, 0, 0, 0, 0, 0, 0};
        for (int i = 0; i < days.length; i++) {
            due.is("its old house on day " + days[i], book.at(0, 3, 0, days[i]), old[i]);
            due.is("its new house on day " + days[i], book.at(0, 5, 0, days[i]), now[i]);
        }
    }

    private static void daysAtTheEnds() {
        sentence("less than 180 days before, or on that day");
        CountedBook first = withPoint();
        first.change(RENUMBER, 0, 5, 0);
        due.is("on day 0", first.at(0, 3, 0, 0), 0);
        due.is("on day 179", first.at(0, 3, 0, 179), 0);
        due.is("on day 180", first.at(0, 3, 0, 180), NONE);
        CountedBook last = withPoint();
        last.change(RENUMBER, 0, 5, LAST_DAY);
        due.is("the day before the last", last.at(0, 3, 0, LAST_DAY - 1), 0);
        due.is("on the last day", last.at(0, 3, 0, LAST_DAY), 0);
        due.is("at the new house the day before the last", last.at(0, 5, 0, LAST_DAY - 1), NONE);
        due.is("at the new house on the last day", last.at(0, 5, 0, LAST_DAY), 0);
        CountedBook before = withPoint();
        before.change(RENUMBER, 0, 5, LAST_DAY - 179);
        due.is("179 days before the last", before.at(0, 3, 0, LAST_DAY), 0);
        CountedBook tooEarly = withPoint();
        tooEarly.change(RENUMBER, 0, 5, LAST_DAY - 180);
        due.is("180 days before the last", tooEarly.at(0, 3, 0, LAST_DAY), NONE);
    }

    private static void whoLiesThereComesFirst() {
        sentence("or, if there is none, one that got another house (CHANGE 3)");
        CountedBook book = withPoint();
        book.change(RENUMBER, 0, 5, 10);
        book.change(CLOSE, book.range(1, ALL, 1, 9, 20), 0, 20);
        book.point(0, 3, 0);
        due.is("the day before another came", book.at(0, 3, 0, 19), 0);
        due.is("the day on which another came", book.at(0, 3, 0, 20), 1);
        book.change(REMOVE, 1, 0, 30);
        due.is("the day before that one was removed", book.at(0, 3, 0, 29), 1);
        due.is("the day on which that one was removed", book.at(0, 3, 0, 30), 0);
        due.is("the last day", book.at(0, 3, 0, 189), 0);
        due.is("the day after", book.at(0, 3, 0, 190), NONE);
        book.point(0, 5, 1);
        due.is("another extra at the new house", book.at(0, 5, 1, 30), 2);
        due.is("another extra at the old house", book.at(0, 3, 1, 30), NONE);
    }

    private static void onlyByAnotherHouse() {
        sentence("one that got another house (CHANGE 3)");
        CountedBook removed = withPoint();
        removed.change(REMOVE, 0, 0, 10);
        due.is("a removed one the day before", removed.at(0, 3, 0, 9), 0);
        due.is("a removed one", removed.at(0, 3, 0, 10), NONE);
        CountedBook closed = withPoint();
        closed.change(CLOSE, 0, 0, 10);
        due.is("a closed one the day before", closed.at(0, 3, 0, 9), 0);
        due.is("a closed one", closed.at(0, 3, 0, 10), NONE);
        CountedBook split = withPoint();
        split.change(SPLIT, 0, 3, 10);
        due.is("one given to a part", split.at(0, 3, 0, 10), 0);
        due.is("one given to a part, long after", split.at(0, 3, 0, LAST_DAY), 0);
        CountedBook refused = withPoint();
        refused.change(RENUMBER, 0, 21, 10);
        refused.change(RENUMBER, 0, 3, 10);
        due.is("one that was refused another house", refused.at(0, 3, 0, LAST_DAY), 0);
    }

    private static void closedOrRemovedByNow() {
        sentence("also if it is closed or removed by now");
        CountedBook removed = withPoint();
        removed.change(RENUMBER, 0, 5, 10);
        removed.change(REMOVE, 0, 0, 20);
        due.is("removed, its old house", removed.at(0, 3, 0, 20), 0);
        due.is("removed, the last day", removed.at(0, 3, 0, 189), 0);
        due.is("removed, the day after", removed.at(0, 3, 0, 190), NONE);
        due.is("removed, its last house", removed.at(0, 5, 0, 20), NONE);
        due.is("removed, its last house the day before", removed.at(0, 5, 0, 19), 0);
        CountedBook closed = withPoint();
        closed.change(RENUMBER, 0, 5, 10);
        closed.change(CLOSE, 0, 0, 10);
        due.is("closed, its old house", closed.at(0, 3, 0, 10), 0);
        due.is("closed, the last day", closed.at(0, 3, 0, 189), 0);
        due.is("closed, the day after", closed.at(0, 3, 0, 190), NONE);
        due.is("closed, its last house", closed.at(0, 5, 0, 10), NONE);
        due.is("closed on the day, its last house the day before", closed.at(0, 5, 0, 9), NONE);
    }

    private static void leftOnTheDayItCame() {
        sentence("less than 180 days before, or on that day, from there");
        CountedBook book = withRange(ALL, 1, 20);
        book.range(1, ALL, 1, 9, 50);
        book.point(0, 3, 0);
        book.change(RENUMBER, 0, 4, 50);
        book.change(RENUMBER, 0, 5, 50);
        for (int house = 3; house <= 4; house++) {
            due.is("house " + house + " the day before", book.at(0, house, 0, 49), NONE);
            due.is("house " + house + " on the day", book.at(0, house, 0, 50), 0);
            due.is("house " + house + " 179 days after", book.at(0, house, 0, 229), 0);
            due.is("house " + house + " 180 days after", book.at(0, house, 0, 230), NONE);
        }
        due.is("house 5 the day before", book.at(0, 5, 0, 49), NONE);
        due.is("house 5 long after", book.at(0, 5, 0, 230), 0);
    }

    private static void latest() {
        sentence("of several the one that got it latest, then the least");
        CountedBook book = withPoint();
        book.change(RENUMBER, 0, 5, 100);
        book.point(0, 3, 0);
        book.change(RENUMBER, 1, 6, 200);
        book.point(0, 3, 0);
        book.change(RENUMBER, 2, 7, 250);
        int[] days = {99, 100, 199, 200, 249, 250, 429, 430};
        int[] points = {0, 1, 1, 2, 2, 2, 2, NONE};
        for (int i = 0; i < days.length; i++) {
            due.is("on day " + days[i], book.at(0, 3, 0, days[i]), points[i]);
        }
        CountedBook greater = withPoint();
        greater.point(0, 4, 0);
        greater.change(RENUMBER, 1, 5, 10);
        greater.change(RENUMBER, 0, 4, 20);
        greater.change(RENUMBER, 0, 6, 30);
        due.is("the lesser one is the latest", greater.at(0, 4, 0, 30), 0);
        due.is("the lesser one had not left", greater.at(0, 4, 0, 19), 1);
    }

    private static void latestOfOnePoint() {
        sentence("of several the one that got it latest, then the least");
        CountedBook book = withPoint();
        book.point(0, 4, 0);
        book.change(RENUMBER, 0, 5, 10);
        book.change(RENUMBER, 1, 3, 20);
        book.change(RENUMBER, 1, 6, 30);
        book.change(RENUMBER, 0, 3, 40);
        book.change(RENUMBER, 0, 7, 50);
        due.is("the first left it first", book.at(0, 3, 0, 19), 0);
        due.is("the second lay there", book.at(0, 3, 0, 29), 1);
        due.is("the second left it then", book.at(0, 3, 0, 39), 1);
        due.is("the first lay there again", book.at(0, 3, 0, 49), 0);
        due.is("the first left it again", book.at(0, 3, 0, 50), 0);
        due.is("till its second leaving is too long ago", book.at(0, 3, 0, 229), 0);
        due.is("then none", book.at(0, 3, 0, 230), NONE);
    }

    private static void thenTheLeast() {
        sentence("of several the one that got it latest, then the least");
        for (int first = 0; first <= 1; first++) {
            CountedBook book = withPoint();
            book.point(0, 4, 0);
            book.change(RENUMBER, 0, 10, 0);
            book.change(RENUMBER, 1, 11, 0);
            int[] order = {first, 1 - first};
            for (int p : order) {
                due.is("point " + p + " comes", book.change(RENUMBER, p, 8, 20), 1);
                due.is("point " + p + " leaves", book.change(RENUMBER, p, 12 + p, 20), 1);
            }
            due.is("point " + first + " left first on the day", book.at(0, 8, 0, 20), 0);
            due.is("179 days after", book.at(0, 8, 0, 199), 0);
            due.is("180 days after", book.at(0, 8, 0, 200), NONE);
            due.is("the day before", book.at(0, 8, 0, 19), NONE);
        }
    }

    private static void streetsThatMeanAnother() {
        sentence("the street that it lay in then being taken as what it means on the day");
        CountedBook book = withPoint();
        book.change(RENUMBER, 0, 5, 10);
        book.change(JOIN, 0, 1, 20);
        due.is("the old street before the join", book.at(0, 3, 0, 19), 0);
        due.is("the new street before the join", book.at(1, 3, 0, 19), NONE);
        due.is("the old street on the join", book.at(0, 3, 0, 20), 0);
        due.is("the new street on the join", book.at(1, 3, 0, 20), 0);
        due.is("the new street, the last day", book.at(1, 3, 0, 189), 0);
        due.is("the new street, the day after", book.at(1, 3, 0, 190), NONE);
        due.is("a third street", book.at(2, 3, 0, 20), NONE);
        book.change(JOIN, 1, 2, 30);
        due.is("the third street on the second join", book.at(2, 3, 0, 30), 0);
        due.is("the third street before it", book.at(2, 3, 0, 29), NONE);
        due.is("the first street on the second join", book.at(0, 3, 0, 30), 0);
        book.change(RENUMBER, 0, 6, 30);
        due.is("left on the day of the join, by the first", book.at(0, 5, 0, 30), 0);
        due.is("left on the day of the join, by the third", book.at(2, 5, 0, 30), 0);
        due.is("lain in the second street the day before", book.at(1, 5, 0, 29), 0);
    }

    private static void streetsThatMeanAnotherLater() {
        sentence("the street that it lay in then being taken as what it means on the day");
        CountedBook book = withPoint();
        book.change(RENUMBER, 0, 5, 10);
        book.change(CLOSE, 0, 0, 20);
        book.alias(0, 1, 30);
        due.is("an alias later, by the old street", book.at(0, 3, 0, 30), 0);
        due.is("an alias later, by the new street", book.at(1, 3, 0, 30), 0);
        due.is("the new street the day before", book.at(1, 3, 0, 29), NONE);
        book.range(1, ALL, 1, 9, 40);
        book.point(1, 3, 0);
        due.is("who lies in the new street comes first", book.at(0, 3, 0, 40), 1);
        due.is("not the day before", book.at(0, 3, 0, 39), 0);
        book.change(RENUMBER, 1, 4, 50);
        due.is("both left, the latest", book.at(0, 3, 0, 50), 1);
        due.is("both left, the latest, by the new street", book.at(1, 3, 0, 50), 1);
        due.is("only the second is left", book.at(1, 3, 0, 229), 1);
        due.is("then none", book.at(1, 3, 0, 230), NONE);
    }

    /** Street 1 goes into street 0 on day 60; point 1 left it, its range is closed. */
    private static void latestOfTwoStreets() {
        sentence("of several the one that got it latest, then the least");
        for (int later = 0; later <= 1; later++) {
            CountedBook book = withPoint();
            book.range(1, ALL, 1, 20, 10);
            book.point(1, 3, 0);
            book.change(RENUMBER, 1 - later, 5, 20);
            book.change(RENUMBER, later, 6, 50);
            book.change(CLOSE, 1, 0, 50);
            book.change(JOIN, 1, 0, 60);
            due.is("by the one street before it went, latest " + later, book.at(0, 3, 0, 59), 0);
            due.is("by the other street before it went, latest " + later, book.at(1, 3, 0, 59), 1);
            for (int street = 0; street <= 1; street++) {
                due.is("by street " + street + " then, latest " + later, book.at(street, 3, 0, 60), later);
                due.is("179 days after the latest " + later, book.at(street, 3, 0, 229), later);
                due.is("180 days after the latest " + later, book.at(street, 3, 0, 230), NONE);
            }
        }
    }

    private static void latestOfTwoStreetsOnADay() {
        sentence("of several the one that got it latest, then the least");
        CountedBook passing = withRange(ALL, 1, 20);
        passing.point(0, 4, 0);
        passing.range(1, ALL, 1, 20, 10);
        passing.point(1, 3, 0);
        passing.change(RENUMBER, 0, 3, 10);
        passing.change(RENUMBER, 0, 5, 10);
        passing.change(RENUMBER, 1, 6, 20);
        passing.change(CLOSE, 1, 0, 20);
        passing.change(JOIN, 1, 0, 30);
        due.is("one left it when the other came", passing.at(0, 3, 0, 30), 1);
        for (int first = 0; first <= 1; first++) {
            CountedBook book = withPoint();
            book.range(1, ALL, 1, 20, 10);
            book.point(1, 3, 0);
            book.change(RENUMBER, first, 5, 20);
            book.change(RENUMBER, 1 - first, 5, 20);
            book.change(CLOSE, 1, 0, 20);
            book.alias(1, 0, 30);
            due.is("both on one day, told first " + first, book.at(1, 3, 0, 30), 0);
            due.is("both on one day, told first " + first, book.at(0, 3, 0, 30), 0);
            due.is("the day before they are one", book.at(1, 3, 0, 29), 1);
        }
    }
}

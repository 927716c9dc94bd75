import java.util.function.Consumer;
import java.util.function.ToIntFunction;

/** Terms: a call that is refused changes nothing; nor does one that only asks, nor an alias that answers 0. */
public final class T09RefusedCallsTest extends Sentences {
    private final String bookName;
    private final Consumer<CountedBook> told;
    private final Lens lens;
    private final int[] before;

    private T09RefusedCallsTest(String bookName, Consumer<CountedBook> told, Lens lens) {
        this.bookName = bookName;
        this.told = told;
        this.lens = lens;
        before = lens.see(told);
    }

    public static void main(String[] args) {
        sentence("A call that is refused changes nothing");
        inAnEmptyBook();
        inABookOfStreets();
        inABookOfAll();
        inAFullBook();
        sentence("0, and nothing changes (THE DAY neither)");
        aliasesThatAnswerNothing();
        sentence("Nothing is promised beyond the answers and state changes described");
        asking();
        due.end();
    }

    private void same(String call, int want, ToIntFunction<CountedBook> refused) {
        CountedBook book = new CountedBook();
        told.accept(book);
        due.is(call + " in " + bookName, refused.applyAsInt(book), want);
        String difference = lens.difference(before, lens.see(both(told, refused)));
        due.is(call + " in " + bookName + ", after which " + difference, difference.isEmpty() ? 0 : 1, 0);
    }

    private static Consumer<CountedBook> both(Consumer<CountedBook> told, ToIntFunction<CountedBook> refused) {
        return book -> {
            told.accept(book);
            refused.applyAsInt(book);
        };
    }

    private static int[] upTo(int most) {
        int[] numbers = new int[most + 1];
        for (int i = 0; i <= most; i++) {
            numbers[i] = i;
        }
        return numbers;
    }

    private static void inAnEmptyBook() {
        Lens lens = new Lens(new int[] {1, 2}, new int[] {0}, new int[] {0, 1})
                .onPlaces(upTo(1), new int[] {0, 1, 2, 100000}, upTo(2)).onStreets(0, 1).onRanges(0, 1).onPoints(0, 1);
        T09RefusedCallsTest book = new T09RefusedCallsTest("an empty book", made -> { }, lens);
        book.same("place(0, 0)", OUTSIDE, b -> b.place(0, 0));
        book.same("place(100000, 0)", OUTSIDE, b -> b.place(100000, 0));
        book.same("place(1, -1)", OUTSIDE, b -> b.place(1, -1));
        book.same("place(1, 10000)", OUTSIDE, b -> b.place(1, 10000));
        book.same("street(0, 0)", UNKNOWN, b -> b.street(0, 0));
        book.same("find(1, 0)", NONE, b -> b.find(1, 0));
        book.same("range(0, ..)", UNKNOWN, b -> b.range(0, ALL, 1, 2, 9));
        book.same("point(0, ..)", UNKNOWN, b -> b.point(0, 1, 0));
        for (int kind = 0; kind <= 4; kind++) {
            int told = kind;
            book.same("change(" + kind + ", 0, ..)", UNKNOWN, b -> b.change(told, 0, 0, 9));
        }
        book.same("change(5, ..)", OUTSIDE, b -> b.change(5, 0, 0, 9));
        book.same("alias(0, 1, ..)", UNKNOWN, b -> b.alias(0, 1, 9));
        book.same("at(0, ..)", UNKNOWN, b -> b.at(0, 1, 0, 9));
        book.same("near(0, 1)", UNKNOWN, b -> b.near(0, 1));
        book.same("order(0)", UNKNOWN, b -> b.order(0));
        book.same("holes(0)", UNKNOWN, b -> b.holes(0));
        book.same("where(0, ..)", UNKNOWN, b -> b.where(0, STREET, 9));
        book.same("count(5)", OUTSIDE, b -> b.count(5));
    }

    private static void inABookOfStreets() {
        Lens lens = new Lens(new int[] {1, 2}, new int[] {0}, new int[] {0, 4, 5, 6})
                .onPlaces(upTo(2), new int[] {10, 11, 12, 99999}, upTo(3)).onStreets(upTo(3)).onRanges(0, 1);
        T09RefusedCallsTest book = new T09RefusedCallsTest("a book of streets", b -> {
            b.place(10, 1);
            b.place(11, 2);
            b.street(0, 1);
            b.street(1, 1);
            b.street(1, 2);
            b.alias(0, 1, 5);
        }, lens);
        book.same("place(10, 3)", STATE, b -> b.place(10, 3));
        book.same("place(12, 10000)", OUTSIDE, b -> b.place(12, 10000));
        book.same("street(-1, 3)", UNKNOWN, b -> b.street(-1, 3));
        book.same("street(2, 3)", UNKNOWN, b -> b.street(2, 3));
        book.same("street(0, -1)", OUTSIDE, b -> b.street(0, -1));
        book.same("street(0, 10000)", OUTSIDE, b -> b.street(0, 10000));
        book.same("street(0, 1)", STATE, b -> b.street(0, 1));
        book.same("range(0, ..), gone", STATE, b -> b.range(0, ALL, 1, 2, 9));
        book.same("join of one that has gone", STATE, b -> b.change(JOIN, 0, 2, 9));
        book.same("join into one that has gone", STATE, b -> b.change(JOIN, 2, 0, 9));
        book.same("join into itself", STATE, b -> b.change(JOIN, 2, 2, 9));
        book.same("alias of one that has gone", STATE, b -> b.alias(0, 2, 9));
        book.same("alias the day before", OUTSIDE, b -> b.alias(2, 1, 4));
        book.same("alias too late", OUTSIDE, b -> b.alias(2, 1, LAST_DAY + 1));
        book.same("alias(3, ..)", UNKNOWN, b -> b.alias(3, 1, 9));
        book.same("alias(.., 3)", UNKNOWN, b -> b.alias(2, 3, 9));
    }

    /**
     * THE DAY is 70. Street 0 has range 3 (1 to 9, points 0 and 2), range 4 (10 to 20, point 5) and range 1 (odd 21
     * to 29, point 3); street 1 has range 2 (even 2 to 10, point 4); street 3 has range 5 (1 to 5, point 6). Range 0
     * is split, range 6 closed with point 7, point 1 removed; street 2 is joined to 3, and street 4 means it too.
     */
    private static void tellAll(CountedBook b) {
        b.place(10, 1);
        b.place(11, 2);
        b.street(0, 0);
        b.street(0, 1);
        b.street(1, 0);
        b.street(1, 1);
        b.street(0, 2);
        b.range(0, ALL, 1, 20, 0);
        b.range(0, ODD, 21, 29, 5);
        b.range(1, EVEN, 2, 10, 5);
        b.point(0, 3, 0);
        b.point(0, 3, 1);
        b.point(0, 5, 0);
        b.point(1, 21, 0);
        b.point(2, 4, 0);
        b.point(0, 20, 1);
        b.change(RENUMBER, 0, 7, 10);
        b.change(SPLIT, 0, 10, 20);
        b.change(REMOVE, 1, 0, 30);
        b.range(2, ALL, 1, 5, 30);
        b.point(5, 2, 0);
        b.change(JOIN, 2, 3, 40);
        b.alias(4, 2, 50);
        b.range(1, ODD, 1, 9, 60);
        b.point(6, 5, 0);
        b.change(CLOSE, 6, 0, 70);
    }

    private static Lens lensOfAll() {
        return new Lens(new int[] {1, 2, 3, 4, 5, 7, 9, 10, 11, 20, 21, 29, 30}, new int[] {0, 1},
                new int[] {0, 5, 9, 10, 19, 29, 30, 39, 40, 49, 50, 69, 70, 80, 189, 190, LAST_DAY})
                .onPlaces(upTo(2), new int[] {10, 11, 12}, upTo(3)).onStreets(upTo(5)).onRanges(upTo(7))
                .onPoints(upTo(8));
    }

    private static void inABookOfAll() {
        T09RefusedCallsTest book = new T09RefusedCallsTest("a book of all", T09RefusedCallsTest::tellAll, lensOfAll());
        rangesInABookOfAll(book);
        pointsInABookOfAll(book);
        closesAndSplitsInABookOfAll(book);
        joinsAndAliasesInABookOfAll(book);
        renumbersAndRemovesInABookOfAll(book);
        book.same("place(10, 1)", STATE, b -> b.place(10, 1));
        book.same("street(1, 1)", STATE, b -> b.street(1, 1));
        book.same("change(-1, ..)", OUTSIDE, b -> b.change(-1, 0, 5, 80));
        book.same("change(5, ..)", OUTSIDE, b -> b.change(5, 0, 5, 80));
    }

    private static void rangesInABookOfAll(T09RefusedCallsTest book) {
        book.same("range of street 5", UNKNOWN, b -> b.range(5, ALL, 30, 31, 80));
        book.same("range of side 3", OUTSIDE, b -> b.range(0, 3, 30, 31, 80));
        book.same("range from 0", OUTSIDE, b -> b.range(0, ALL, 0, 31, 80));
        book.same("range to 1000", OUTSIDE, b -> b.range(0, ALL, 30, 1000, 80));
        book.same("range without houses", OUTSIDE, b -> b.range(0, ALL, 31, 30, 80));
        book.same("range the day before", OUTSIDE, b -> b.range(0, ALL, 30, 31, 69));
        book.same("range too late", OUTSIDE, b -> b.range(0, ALL, 30, 31, LAST_DAY + 1));
        book.same("range of a joined street", STATE, b -> b.range(2, ALL, 30, 31, 80));
        book.same("range of an alias", STATE, b -> b.range(4, ALL, 30, 31, 80));
        book.same("range over range 1", OVER - 1, b -> b.range(0, ALL, 20, 30, 80));
        book.same("range over range 3", OVER - 3, b -> b.range(0, EVEN, 1, 30, 80));
        book.same("range over range 5", OVER - 5, b -> b.range(3, ALL, 5, 30, 80));
    }

    private static void pointsInABookOfAll(T09RefusedCallsTest book) {
        book.same("point of range 7", UNKNOWN, b -> b.point(7, 4, 0));
        book.same("point of range -1", UNKNOWN, b -> b.point(-1, 4, 0));
        book.same("point below", OUTSIDE, b -> b.point(4, 9, 0));
        book.same("point above", OUTSIDE, b -> b.point(3, 10, 0));
        book.same("point of the other side", OUTSIDE, b -> b.point(1, 22, 0));
        book.same("point of extra -1", OUTSIDE, b -> b.point(3, 4, -1));
        book.same("point of extra 26", OUTSIDE, b -> b.point(3, 4, 26));
        book.same("point of a split range", STATE, b -> b.point(0, 4, 0));
        book.same("point of a closed range", STATE, b -> b.point(6, 3, 0));
        book.same("point where one is", STATE, b -> b.point(3, 5, 0));
        book.same("point where one is by its new house", STATE, b -> b.point(3, 7, 0));
    }

    private static void closesAndSplitsInABookOfAll(T09RefusedCallsTest book) {
        for (int kind : new int[] {CLOSE, SPLIT}) {
            String name = kind == CLOSE ? "close" : "split";
            book.same(name + " of range 7", UNKNOWN, b -> b.change(kind, 7, 5, 80));
            book.same(name + " of range -1", UNKNOWN, b -> b.change(kind, -1, 5, 80));
            book.same(name + " the day before", OUTSIDE, b -> b.change(kind, 3, 5, 69));
            book.same(name + " too late", OUTSIDE, b -> b.change(kind, 3, 5, LAST_DAY + 1));
            book.same(name + " of a split range", STATE, b -> b.change(kind, 0, 5, 80));
            book.same(name + " of a closed range", STATE, b -> b.change(kind, 6, 5, 80));
        }
        book.same("split at the lowest", OUTSIDE, b -> b.change(SPLIT, 3, 1, 80));
        book.same("split above the highest", OUTSIDE, b -> b.change(SPLIT, 3, 10, 80));
        book.same("split at the lowest of a part", OUTSIDE, b -> b.change(SPLIT, 4, 10, 80));
        book.same("split above the highest of a part", OUTSIDE, b -> b.change(SPLIT, 4, 21, 80));
    }

    private static void joinsAndAliasesInABookOfAll(T09RefusedCallsTest book) {
        book.same("join of street 5", UNKNOWN, b -> b.change(JOIN, 5, 0, 80));
        book.same("join into street 5", UNKNOWN, b -> b.change(JOIN, 0, 5, 80));
        book.same("join the day before", OUTSIDE, b -> b.change(JOIN, 0, 1, 69));
        book.same("join too late", OUTSIDE, b -> b.change(JOIN, 0, 1, LAST_DAY + 1));
        book.same("join into itself", STATE, b -> b.change(JOIN, 0, 0, 80));
        book.same("join of a joined one", STATE, b -> b.change(JOIN, 2, 0, 80));
        book.same("join into an alias", STATE, b -> b.change(JOIN, 0, 4, 80));
        book.same("join over range 2", OVER - 2, b -> b.change(JOIN, 0, 1, 80));
        book.same("join over range 3", OVER - 3, b -> b.change(JOIN, 1, 0, 80));
        book.same("join over range 5", OVER - 5, b -> b.change(JOIN, 1, 3, 80));
        book.same("alias of street 5", UNKNOWN, b -> b.alias(5, 0, 80));
        book.same("alias into street 5", UNKNOWN, b -> b.alias(0, 5, 80));
        book.same("alias the day before", OUTSIDE, b -> b.alias(0, 1, 69));
        book.same("alias with live ranges", STATE, b -> b.alias(0, 1, 80));
        book.same("alias with live ranges into itself", STATE, b -> b.alias(0, 0, 80));
        book.same("alias with live ranges into one that means it", STATE, b -> b.alias(3, 4, 80));
        book.same("alias of a joined one", STATE, b -> b.alias(2, 0, 80));
        book.same("alias of an alias", STATE, b -> b.alias(4, 0, 80));
    }

    private static void renumbersAndRemovesInABookOfAll(T09RefusedCallsTest book) {
        for (int kind : new int[] {RENUMBER, REMOVE}) {
            String name = kind == RENUMBER ? "renumber" : "remove";
            book.same(name + " of point 8", UNKNOWN, b -> b.change(kind, 8, 4, 80));
            book.same(name + " of point -1", UNKNOWN, b -> b.change(kind, -1, 4, 80));
            book.same(name + " the day before", OUTSIDE, b -> b.change(kind, 0, 4, 69));
            book.same(name + " too late", OUTSIDE, b -> b.change(kind, 0, 4, LAST_DAY + 1));
            book.same(name + " of a removed one", STATE, b -> b.change(kind, 1, 4, 80));
            book.same(name + " of a closed one", STATE, b -> b.change(kind, 7, 3, 80));
        }
        book.same("renumber to 0", OUTSIDE, b -> b.change(RENUMBER, 0, 0, 80));
        book.same("renumber into the other part", OUTSIDE, b -> b.change(RENUMBER, 0, 10, 80));
        book.same("renumber to the other side", OUTSIDE, b -> b.change(RENUMBER, 3, 22, 80));
        book.same("renumber to itself", STATE, b -> b.change(RENUMBER, 0, 7, 80));
        book.same("renumber to another's", STATE, b -> b.change(RENUMBER, 0, 5, 80));
    }

    /** All 16 places, 32 streets, 80 ranges (of two houses each) and 120 points, all of street 0 on day 0. */
    private static void tellFull(CountedBook b) {
        for (int p = 0; p < 16; p++) {
            b.place(p + 1, 0);
        }
        for (int s = 0; s < 32; s++) {
            b.street(s / 2, s % 2);
        }
        for (int r = 0; r < 80; r++) {
            b.range(0, ALL, 2 * r + 1, 2 * r + 2, 0);
        }
        for (int p = 0; p < 120; p++) {
            b.point(p / 2, p + 1, 0);
        }
    }

    private static void inAFullBook() {
        Lens lens = new Lens(new int[] {1, 2, 120, 121, 160, 161}, new int[] {0, 1}, new int[] {0, 1})
                .onPlaces(new int[] {0, 15, 16}, new int[] {1, 16, 17}, upTo(2)).onStreets(0, 1, 31, 32)
                .onRanges(0, 59, 60, 79, 80, 81).onPoints(0, 1, 119, 120);
        T09RefusedCallsTest book = new T09RefusedCallsTest("a full book", T09RefusedCallsTest::tellFull, lens);
        book.same("a 17th place", ROOM, b -> b.place(17, 0));
        book.same("a 33rd street", ROOM, b -> b.street(0, 2));
        book.same("an 81st range", ROOM, b -> b.range(0, ALL, 161, 162, 1));
        book.same("an 81st range over others", ROOM, b -> b.range(0, ALL, 1, 2, 1));
        book.same("an 81st range of another street", ROOM, b -> b.range(1, ALL, 1, 2, 1));
        book.same("a 121st point", ROOM, b -> b.point(60, 121, 0));
        book.same("a split into an 81st and 82nd range", ROOM, b -> b.change(SPLIT, 0, 2, 1));
        book.same("a code that is there", STATE, b -> b.place(16, 0));
        book.same("a name that is there", STATE, b -> b.street(15, 1));
        book.same("a point that is there", STATE, b -> b.point(59, 120, 0));
        book.same("close of an 81st range", UNKNOWN, b -> b.change(CLOSE, 80, 0, 1));
        book.same("remove of a 121st point", UNKNOWN, b -> b.change(REMOVE, 120, 0, 1));
        book.same("join of a 33rd street", UNKNOWN, b -> b.change(JOIN, 32, 0, 1));
        book.same("alias into a 33rd street", UNKNOWN, b -> b.alias(1, 32, 1));
    }

    private static void aliasesThatAnswerNothing() {
        Lens lens = new Lens(new int[] {1, 4}, new int[] {0}, new int[] {0, 4, 5, 6, 9})
                .onPlaces(upTo(1), new int[] {10}, upTo(4)).onStreets(upTo(4)).onRanges(0, 1);
        T09RefusedCallsTest book = new T09RefusedCallsTest("a chain", b -> {
            b.place(10, 0);
            for (int s = 0; s < 4; s++) {
                b.street(0, s);
            }
            b.alias(0, 1, 5);
            b.alias(1, 2, 6);
        }, lens);
        book.same("alias of one into itself on THE DAY", 0, b -> b.alias(3, 3, 6));
        book.same("alias of one into itself later", 0, b -> b.alias(3, 3, 9));
        book.same("alias of one into itself on the last day", 0, b -> b.alias(2, 2, LAST_DAY));
        book.same("alias of one into what means it", 0, b -> b.alias(2, 1, 9));
        book.same("alias of one into what means it by another", 0, b -> b.alias(2, 0, 9));
    }

    private static void asking() {
        T09RefusedCallsTest book = new T09RefusedCallsTest("a book of all", T09RefusedCallsTest::tellAll, lensOfAll());
        book.same("find", 2, b -> b.find(11, 0));
        book.same("find of none", NONE, b -> b.find(12, 0));
        book.same("at", 0, b -> b.at(0, 7, 0, LAST_DAY));
        book.same("at an old house", 0, b -> b.at(0, 3, 0, 189));
        book.same("at none", NONE, b -> b.at(0, 3, 0, 190));
        book.same("at house 1000", OUTSIDE, b -> b.at(0, 1000, 0, 80));
        book.same("near", 2, b -> b.near(0, 4));
        book.same("near house 0", OUTSIDE, b -> b.near(0, 0));
        book.same("order", 1, b -> b.order(0));
        book.same("order of a removed one", STATE, b -> b.order(1));
        book.same("holes", 21, b -> b.holes(0));
        book.same("holes of street 5", UNKNOWN, b -> b.holes(5));
        book.same("where", 7, b -> b.where(0, HOUSE, LAST_DAY));
        book.same("where on no day", OUTSIDE, b -> b.where(0, HOUSE, LAST_DAY + 1));
        book.same("count", 5, b -> b.count(LIVE_RANGES));
        book.same("count of 5", OUTSIDE, b -> b.count(5));
    }
}

/** With all its places, streets, ranges and points a book answers as any other. */
public final class FullBookTest extends Sentences {
    public static void main(String[] args) {
        CountedBook book = full();
        int[] counts = {16, 32, 80, 120, 0};
        for (int what = 0; what < counts.length; what++) {
            due.is("count(" + what + ")", book.count(what), counts[what]);
        }
        due.is("near", book.near(0, 999), 0);
        due.is("order", book.order(119), 59);
        due.is("holes", book.holes(0), 40);
        due.is("at", book.at(0, 237, 0, 0), NONE);
        due.is("where", book.where(119, 1, 0), 119);
        due.is("alias of one with ranges", book.alias(0, 1, 1), STATE);
        due.is("alias", book.alias(31, 0, 1), 1);
        due.is("renumber", book.change(3, 119, 120, 2), 1);
        due.is("at its old house", book.at(31, 119, 1, 2), 119);
        due.is("join", book.change(2, 0, 1, 3), 120);
        due.is("near after the join", book.near(31, 999), 119);
        due.is("split", book.change(1, 79, 160, 4), ROOM);
        due.is("close", book.change(0, 0, 0, 4), 2);
        due.is("remove", book.change(4, 119, 0, 5), 1);
        due.is("live points", book.count(3), 117);
        splitOfAllPoints();
        due.end();
    }

    /** Range r is the houses 2r + 1 and 2r + 2 of street 0; point p is at house p, of extra 1 (point 0 at 120). */
    private static CountedBook full() {
        CountedBook book = new CountedBook();
        for (int p = 0; p < 16; p++) {
            book.place(p + 1, 0);
        }
        for (int s = 0; s < 32; s++) {
            book.street(s / 2, s % 2);
        }
        for (int r = 0; r < 80; r++) {
            due.is("range " + r, book.range(0, 0, 2 * r + 1, 2 * r + 2, 0), r);
        }
        due.is("point 0", book.point(59, 120, 2), 0);
        for (int p = 1; p < 120; p++) {
            due.is("point " + p, book.point((p - 1) / 2, p, 1), p);
        }
        return book;
    }

    private static void splitOfAllPoints() {
        CountedBook book = withPoints(120);
        due.is("split of all", book.change(1, 0, 3, 0), 120);
        due.is("close of the lower part", book.change(0, 1, 0, 0), 52);
        due.is("close of the upper part", book.change(0, 2, 0, 0), 68);
    }
}

/** Promise 12: holes. */
public final class P12HolesTest extends Sentences {
    public static void main(String[] args) {
        CountedBook book = withStreets(3);
        due.is("holes(-1)", book.holes(-1), UNKNOWN);
        due.is("holes(3)", book.holes(3), UNKNOWN);
        due.is("without ranges", book.holes(0), 0);
        book.range(0, 0, 1, 10, 0);
        due.is("all", book.holes(0), 10);
        book.range(0, 1, 12, 20, 0);
        due.is("odd ones between even ends", book.holes(0), 14);
        book.range(0, 2, 11, 21, 0);
        due.is("even ones between odd ends", book.holes(0), 19);
        book.range(0, 1, 21, 21, 0);
        due.is("one odd house", book.holes(0), 20);
        book.point(0, 3, 0);
        book.point(0, 3, 1);
        due.is("two points at one house", book.holes(0), 19);
        due.is("asked again", book.holes(0), 19);
        book.point(0, 4, 0);
        due.is("another house", book.holes(0), 18);
        book.change(4, 1, 0, 1);
        due.is("one is left at the house", book.holes(0), 18);
        book.change(3, 0, 4, 2);
        due.is("it is taken already with another extra", book.holes(0), 18);
        book.change(3, 0, 5, 2);
        due.is("numbered anew", book.holes(0), 18);
        book.change(1, 0, 5, 3);
        due.is("after a split", book.holes(0), 18);
        book.range(1, 0, 30, 31, 4);
        book.point(6, 30, 0);
        due.is("another street", book.holes(1), 1);
        book.change(2, 1, 0, 5);
        due.is("after a join", book.holes(0), 19);
        due.is("what it means", book.holes(1), 19);
        book.change(0, 4, 0, 6);
        due.is("a closed range", book.holes(0), 16);
        book.alias(2, 1, 7);
        due.is("an alias of a joined one", book.holes(2), 16);
        CountedBook wide = withStreets(1);
        wide.range(0, 0, 1, 999, 0);
        wide.point(0, 1, 0);
        wide.point(0, 999, 0);
        due.is("the widest", wide.holes(0), 997);
        due.end();
    }
}

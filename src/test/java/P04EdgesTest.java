/** Promise 4, at its edges: find() in an empty and in a full book, and by numbers that nothing can have. */
public final class P04EdgesTest extends Sentences {
    public static void main(String[] args) {
        sentence("The street of a name in the place with a code; NONE");
        int[] wild = {LEAST, -1, 0, 1, 9999, 10000, 99999, 100000, MOST};
        for (int code : wild) {
            for (int name : wild) {
                due.is("find in an empty book", new CountedBook().find(code, name), NONE);
                due.is("find in a book without streets", withPlaces(3).find(code, name), NONE);
            }
            due.is("find by name " + code, withStreets(1).find(10, code), code == 0 ? 0 : NONE);
            due.is("find by code " + code, withStreets(1).find(code, 0), NONE);
        }
        sentence("The street of a name in the place with a code");
        CountedBook full = withPlaces(16);
        for (int s = 0; s < 32; s++) {
            full.street(s % 16, 9998 + s / 16);
        }
        for (int s = 0; s < 32; s++) {
            due.is("street " + s, full.find(10 + s % 16, 9998 + s / 16), s);
        }
        due.is("a code below all", full.find(9, 9998), NONE);
        due.is("a code above all", full.find(26, 9998), NONE);
        due.is("a name below all", full.find(10, 9997), NONE);
        due.is("a name above all", full.find(25, 10000), NONE);
        sentence("never get another number");
        CountedBook gone = withStreets(3);
        gone.alias(0, 2, 0);
        gone.change(JOIN, 1, 2, 0);
        due.is("an alias", gone.find(10, 0), 0);
        due.is("a joined one", gone.find(10, 1), 1);
        due.end();
    }
}

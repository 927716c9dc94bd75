/** Promise 2, at its edges: what place() refuses, and the last that it does not. */
public final class P02EdgesTest extends Sentences {
    public static void main(String[] args) {
        sentence("A place more: its number. OUTSIDE (code; name 0 .. 9999)");
        due.is("the least of both", new CountedBook().place(1, 0), 0);
        due.is("the most of both", new CountedBook().place(99999, 9999), 0);
        due.is("code 0", new CountedBook().place(0, 0), OUTSIDE);
        due.is("code 100000", new CountedBook().place(100000, 9999), OUTSIDE);
        due.is("name -1", new CountedBook().place(1, -1), OUTSIDE);
        due.is("name 10000", new CountedBook().place(99999, 10000), OUTSIDE);
        sentence("STATE (that code is there)");
        for (int there = 0; there < 15; there++) {
            CountedBook book = withPlaces(15);
            due.is("the code of place " + there, book.place(10 + there, 77), STATE);
            due.is("a free code", book.place(9, 77), 15);
        }
        sentence("STATE (that code is there), ROOM");
        CountedBook full = withPlaces(16);
        due.is("no room", full.place(9, 0), ROOM);
        due.is("no room for the greatest code", full.place(99999, 9999), ROOM);
        due.is("the last code is there", full.place(25, 0), STATE);
        due.is("the first code is there", full.place(10, 0), STATE);
        due.is("a code outside", full.place(0, 0), OUTSIDE);
        due.is("places", full.count(PLACES), 16);
        for (int p = 0; p < 16; p++) {
            due.is("a street of place " + p, full.street(p, 3), p);
            due.is("found by its code", full.find(10 + p, 3), p);
        }
        due.end();
    }
}

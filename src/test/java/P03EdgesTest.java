/** Promise 3, at its edges: what street() refuses, and the last that it does not. */
public final class P03EdgesTest extends Sentences {
    public static void main(String[] args) {
        sentence("A street more: its number. UNKNOWN");
        for (int places : new int[] {0, 1, 15, 16}) {
            CountedBook book = withPlaces(places);
            due.is("place " + places + " of " + places, book.street(places, 0), UNKNOWN);
            due.is("place -1 of " + places, book.street(-1, 0), UNKNOWN);
            due.is("place 16", book.street(16, 0), UNKNOWN);
            due.is("the least place", book.street(LEAST, 0), UNKNOWN);
            due.is("the most place", book.street(MOST, 0), UNKNOWN);
            due.is("streets", book.count(STREETS), 0);
            if (places > 0) {
                due.is("the last place of " + places, book.street(places - 1, 0), 0);
                due.is("it is in that place", book.find(9 + places, 0), 0);
            }
        }
        sentence("OUTSIDE (name 0 .. 9999)");
        due.is("name 0", withPlaces(1).street(0, 0), 0);
        due.is("name 9999", withPlaces(1).street(0, 9999), 0);
        due.is("name -1", withPlaces(1).street(0, -1), OUTSIDE);
        due.is("name 10000", withPlaces(1).street(0, 10000), OUTSIDE);
        state();
        room();
        due.end();
    }

    private static void state() {
        sentence("STATE (the place has one of that name)");
        CountedBook book = withStreets(31);
        for (int name = 0; name < 31; name++) {
            due.is("name " + name, book.street(0, name), STATE);
        }
        due.is("a name that it has not", book.street(0, 31), 31);
        CountedBook joined = withStreets(2);
        joined.change(JOIN, 0, 1, 0);
        due.is("the name of a joined one", joined.street(0, 0), STATE);
    }

    private static void room() {
        sentence("STATE (the place has one of that name), ROOM");
        CountedBook book = withStreets(32);
        book.place(20, 0);
        due.is("no room", book.street(0, 32), ROOM);
        due.is("no room in an empty place", book.street(1, 0), ROOM);
        due.is("the last name is there", book.street(0, 31), STATE);
        due.is("a name outside", book.street(0, 10000), OUTSIDE);
        due.is("no such place", book.street(2, 0), UNKNOWN);
        book.alias(0, 1, 0);
        book.change(JOIN, 2, 3, 0);
        due.is("no room though some have gone", book.street(0, 32), ROOM);
        due.is("streets", book.count(STREETS), 32);
    }
}

/** Terms: places and streets, their numbers, codes and names, up to the most of them. */
public final class T01PlacesAndStreetsTest extends Sentences {
    public static void main(String[] args) {
        placesAtMost();
        codes();
        codesAreOthers();
        namesOfPlaces();
        streetsAtMost();
        streetsAtMostOverPlaces();
        namesOfStreets();
        namesAreOthersInOnePlace();
        numbers();
        due.end();
    }

    private static void placesAtMost() {
        sentence("PLACES (16 at most)");
        CountedBook book = new CountedBook();
        due.is("places of an empty book", book.count(PLACES), 0);
        for (int p = 0; p < 15; p++) {
            book.place(10 + p, 0);
        }
        due.is("the 16th", book.place(99, 0), 15);
        due.is("a 17th", book.place(100, 0), ROOM);
        due.is("a 17th again", book.place(101, 9999), ROOM);
        due.is("places", book.count(PLACES), 16);
        due.is("a street of the 16th", book.street(15, 4), 0);
        due.is("the 16th is found", book.find(99, 4), 0);
        due.is("a street of a 17th", book.street(16, 4), UNKNOWN);
    }

    private static void codes() {
        sentence("have a CODE 1 .. 99999");
        for (int code : new int[] {0, -1, 100000, 100001, LEAST, MOST}) {
            CountedBook book = new CountedBook();
            due.is("code " + code, book.place(code, 0), OUTSIDE);
            due.is("places after code " + code, book.count(PLACES), 0);
        }
        for (int code : new int[] {1, 2, 99998, 99999}) {
            CountedBook book = new CountedBook();
            due.is("code " + code, book.place(code, 0), 0);
            book.street(0, 0);
            due.is("find by code " + code, book.find(code, 0), 0);
            due.is("find by the one before " + code, book.find(code - 1, 0), NONE);
            due.is("find by the one after " + code, book.find(code + 1, 0), NONE);
        }
    }

    private static void codesAreOthers() {
        sentence("each another one, and a NAME");
        CountedBook book = new CountedBook();
        book.place(1, 0);
        due.is("code 1 of another name", book.place(1, 1), STATE);
        due.is("code 1 of the same name", book.place(1, 0), STATE);
        due.is("code 99999 of the same name", book.place(99999, 0), 1);
        due.is("code 99999 once more", book.place(99999, 5), STATE);
        due.is("code 2", book.place(2, 0), 2);
        due.is("places", book.count(PLACES), 3);
    }

    private static void namesOfPlaces() {
        sentence("OUTSIDE (code; name 0 .. 9999)");
        CountedBook book = new CountedBook();
        for (int name : new int[] {-1, 10000, LEAST, MOST}) {
            due.is("place of name " + name, book.place(7, name), OUTSIDE);
        }
        due.is("places", book.count(PLACES), 0);
        due.is("place of name 0", book.place(7, 0), 0);
        due.is("place of name 9999", book.place(8, 9999), 1);
    }

    private static void streetsAtMost() {
        sentence("STREETS (32 at most)");
        CountedBook book = withPlaces(1);
        due.is("streets of a book without any", book.count(STREETS), 0);
        for (int s = 0; s < 31; s++) {
            book.street(0, s);
        }
        due.is("the 32nd", book.street(0, 31), 31);
        due.is("a 33rd", book.street(0, 32), ROOM);
        due.is("streets", book.count(STREETS), 32);
        due.is("a 33rd is not found", book.find(10, 32), NONE);
        due.is("a range of the 32nd", book.range(31, ALL, 1, 4, 0), 0);
        due.is("holes of the 32nd", book.holes(31), 4);
        due.is("a range of a 33rd", book.range(32, ALL, 1, 4, 0), UNKNOWN);
        due.is("holes of a 33rd", book.holes(32), UNKNOWN);
    }

    private static void streetsAtMostOverPlaces() {
        sentence("STREETS (32 at most)");
        CountedBook book = withPlaces(16);
        for (int s = 0; s < 32; s++) {
            due.is("street " + s, book.street(s % 16, s / 16), s);
        }
        for (int p = 0; p < 16; p++) {
            due.is("a 33rd in place " + p, book.street(p, 2), ROOM);
        }
        due.is("the last of the last place", book.find(25, 1), 31);
    }

    private static void namesOfStreets() {
        sentence("UNKNOWN, OUTSIDE (name 0 .. 9999)");
        CountedBook book = withPlaces(1);
        for (int name : new int[] {-1, 10000, LEAST, MOST}) {
            due.is("street of name " + name, book.street(0, name), OUTSIDE);
            due.is("find of name " + name, book.find(10, name), NONE);
        }
        due.is("streets", book.count(STREETS), 0);
        due.is("street of name 0", book.street(0, 0), 0);
        due.is("street of name 9999", book.street(0, 9999), 1);
        due.is("find of name 0", book.find(10, 0), 0);
        due.is("find of name 9999", book.find(10, 9999), 1);
        due.is("find of name 1", book.find(10, 1), NONE);
        due.is("find of name 9998", book.find(10, 9998), NONE);
    }

    private static void namesAreOthersInOnePlace() {
        sentence("have a place and a name, in one place each another one");
        CountedBook book = withPlaces(2);
        book.street(0, 0);
        due.is("the same name in the place", book.street(0, 0), STATE);
        due.is("the same name in another place", book.street(1, 0), 1);
        due.is("the same name there once more", book.street(1, 0), STATE);
        due.is("another name", book.street(0, 1), 2);
        book.alias(0, 2, 0);
        due.is("the name of one that has gone", book.street(0, 0), STATE);
        due.is("streets", book.count(STREETS), 3);
    }

    private static void numbers() {
        sentence("All are numbered 0, 1, .. of their kind, and never get another number");
        CountedBook book = new CountedBook();
        due.is("a refused place", book.place(0, 0), OUTSIDE);
        due.is("the first place", book.place(5, 0), 0);
        due.is("a refused place", book.place(5, 0), STATE);
        due.is("the second place", book.place(4, 0), 1);
        due.is("a refused street", book.street(2, 0), UNKNOWN);
        due.is("the first street", book.street(1, 3), 0);
        due.is("a refused street", book.street(1, 3), STATE);
        due.is("the second street", book.street(0, 3), 1);
        due.is("the first street's number", book.find(4, 3), 0);
        due.is("the second street's number", book.find(5, 3), 1);
        book.alias(0, 1, 3);
        due.is("the number of one that has gone", book.find(4, 3), 0);
        due.is("the number of the one it went into", book.find(5, 3), 1);
        due.is("the third street", book.street(0, 4), 2);
    }
}

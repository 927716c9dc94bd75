/** Books that several tests begin with. */
final class Books {
    private Books() {
    }

    /** One place (code 10) with streets 0, 1, .. of the names 0, 1, .. */
    static AddressBook withStreets(int streets) {
        AddressBook book = new AddressBook();
        book.place(10, 1);
        for (int s = 0; s < streets; s++) {
            book.street(0, s);
        }
        return book;
    }

    /** Street 0 of three has range 0, all houses 1 to 20, from day 0 on. */
    static AddressBook withRange() {
        AddressBook book = withStreets(3);
        book.range(0, 0, 1, 20, 0);
        return book;
    }

    /** As withRange, with all 120 points: extras 0 to 25 at houses 1, 2, .. */
    static AddressBook withAllPoints() {
        AddressBook book = withRange();
        for (int p = 0; p < 120; p++) {
            book.point(0, 1 + p / 26, p % 26);
        }
        return book;
    }

    /** Street 0 of three has all 80 ranges: range r is the houses 3r + 1 and 3r + 2. */
    static AddressBook withAllRanges() {
        AddressBook book = withStreets(3);
        for (int r = 0; r < 80; r++) {
            book.range(0, 0, 3 * r + 1, 3 * r + 2, 0);
        }
        return book;
    }
}

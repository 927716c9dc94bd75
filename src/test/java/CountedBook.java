/** An AddressBook that no test can call more often than the document lets an object be used. */
final class CountedBook {
    static final int MOST_CALLS = 512;

    private final AddressBook book = new AddressBook();
    private int calls = 0;

    int callsLeft() {
        return MOST_CALLS - calls;
    }

    private AddressBook called() {
        calls++;
        if (calls > MOST_CALLS) {
            throw new IllegalStateException("the test calls one object more than " + MOST_CALLS + " times");
        }
        return book;
    }

    int place(int code, int name) {
        return called().place(code, name);
    }

    int street(int place, int name) {
        return called().street(place, name);
    }

    int find(int code, int name) {
        return called().find(code, name);
    }

    int range(int street, int side, int low, int high, int day) {
        return called().range(street, side, low, high, day);
    }

    int point(int range, int house, int extra) {
        return called().point(range, house, extra);
    }

    int change(int kind, int a, int b, int day) {
        return called().change(kind, a, b, day);
    }

    int alias(int street, int other, int day) {
        return called().alias(street, other, day);
    }

    int at(int street, int house, int extra, int day) {
        return called().at(street, house, extra, day);
    }

    int near(int street, int house) {
        return called().near(street, house);
    }

    int order(int point) {
        return called().order(point);
    }

    int holes(int street) {
        return called().holes(street);
    }

    int where(int point, int what, int day) {
        return called().where(point, what, day);
    }

    int count(int what) {
        return called().count(what);
    }
}

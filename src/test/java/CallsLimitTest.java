/** An object answers rightly up to its 512th call, when nearly all of them tell a new house. */
public final class CallsLimitTest {
    private static final int LAST_CALL = 512, SETUP_CALLS = 4;

    public static void main(String[] args) {
        Due due = new Due();
        AddressBook book = new AddressBook();
        book.place(1, 1);
        book.street(0, 1);
        book.range(0, 0, 1, 999, 0);
        book.point(0, 1, 0);
        int moves = LAST_CALL - SETUP_CALLS - 1;
        for (int move = 1; move <= moves; move++) {
            due.is("move " + move, book.change(3, 0, 1 + move, move), 1);
        }
        due.is("the last call", book.at(0, 1 + moves, 0, moves), 0);
        due.end();
    }
}

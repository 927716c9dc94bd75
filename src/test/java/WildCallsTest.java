import java.util.Random;

/** No call throws or hangs, whatever its arguments are, and also after the 512th call. */
public final class WildCallsTest {
    private static final int RUNS = 200, CALLS = 3000;
    private static final int[] EDGES = {Integer.MIN_VALUE, Integer.MIN_VALUE + 1, -201, -1, 0, 1, 2, 3, 15, 16, 25, 26,
        31, 32, 79, 80, 119, 120, 179, 180, 511, 512, 998, 999, 1000, 9999, 10000, 99999, 100000, 999999, 1000000,
        1000001, Integer.MAX_VALUE - 1, Integer.MAX_VALUE};

    public static void main(String[] args) {
        Due due = new Due();
        for (int seed = 0; seed < RUNS; seed++) {
            due.is("throws in run " + seed, run(new Random(seed)), 0);
        }
        due.is("moves without end", moveWithoutEnd(), 0);
        due.end();
    }

    private static AddressBook bookWithRange() {
        AddressBook book = new AddressBook();
        book.place(10, 1);
        book.street(0, 0);
        book.street(0, 1);
        book.street(0, 2);
        book.range(0, 0, 1, 20, 0);
        return book;
    }

    private static int run(Random random) {
        AddressBook book = bookWithRange();
        int wild = random.nextInt(10);
        for (int c = 0; c < CALLS; c++) {
            int[] n = new int[6];
            for (int i = 0; i < n.length; i++) {
                n[i] = random.nextInt(10) < wild ? EDGES[random.nextInt(EDGES.length)] : random.nextInt(8);
            }
            try {
                call(book, random.nextInt(13), n);
            } catch (RuntimeException thrown) {
                System.out.println("  call " + c + ": " + thrown);
                return 1;
            }
        }
        return 0;
    }

    private static int call(AddressBook book, int method, int[] n) {
        switch (method) {
            case 0: return book.place(n[0], n[1]);
            case 1: return book.street(n[0], n[1]);
            case 2: return book.find(n[0], n[1]);
            case 3: return book.range(n[0], n[1], n[2], n[3], n[5] < 7 ? book.count(4) : n[4]);
            case 4: return book.point(n[0], n[1], n[2]);
            case 5: return book.change(n[0], n[1], n[2], n[5] < 7 ? book.count(4) : n[3]);
            case 6: return book.alias(n[0], n[1], n[5] < 7 ? book.count(4) : n[2]);
            case 7: return book.at(n[0], n[1], n[2], n[3]);
            case 8: return book.near(n[0], n[1]);
            case 9: return book.order(n[0]);
            case 10: return book.holes(n[0]);
            case 11: return book.where(n[0], n[1], n[2]);
            default: return book.count(n[0]);
        }
    }

    /** Far more moves than an object's 512 calls can tell. */
    private static int moveWithoutEnd() {
        AddressBook book = bookWithRange();
        book.point(0, 1, 0);
        try {
            for (int move = 0; move < CALLS; move++) {
                book.change(3, 0, 2 + move % 2, move);
                book.point(0, 4, move % 26);
                book.at(0, 999, 0, move);
                book.where(0, 1, 1000000);
                book.where(1, 1, 0);
            }
        } catch (RuntimeException thrown) {
            System.out.println("  " + thrown);
            return 1;
        }
        return 0;
    }
}

import java.util.Random;

/** Runs of 512 calls, chosen by fixed seeds: AddressBook answers as PlainBook does. */
public final class PlainBookTest {
    private static final int RUNS = 3000, CALLS = 512;

    private final Random random;
    private final int streets;
    private final int houses;
    private final int daysAhead;
    /** Whether hardly anything is asked, so that the book gets full. */
    private final boolean telling;
    private final AddressBook book = new AddressBook();
    private final PlainBook plain = new PlainBook();
    private String call = "";
    private int got;
    private int want;

    private PlainBookTest(int seed) {
        random = new Random(seed);
        streets = 2 + random.nextInt(31);
        houses = seed % 3 == 0 ? 999 : 6 + random.nextInt(40);
        daysAhead = 1 + random.nextInt(60);
        telling = seed % 4 == 0;
    }

    public static void main(String[] args) {
        Due due = new Due();
        for (int seed = 0; seed < RUNS; seed++) {
            new PlainBookTest(seed).run(seed, due);
        }
        due.end();
    }

    private void run(int seed, Due due) {
        for (int c = 0; c < CALLS; c++) {
            if (telling && c >= CALLS - 100) {
                ask(oneOf(68, 99));
            } else {
                step(c);
            }
            due.is("seed " + seed + ", call " + c + ": " + call, got, want);
            if (got != want) {
                return;
            }
        }
    }

    private void step(int c) {
        if (c < 3) {
            place(100 + c, c);
        } else if (c < 3 + streets) {
            street(random.nextInt(3), c);
        } else {
            int pick = random.nextInt(telling ? 60 : 100);
            if (pick < 4) {
                place(oneOf(90, 120), oneOf(-1, 3));
            } else if (pick < 8) {
                street(number(0), oneOf(-1, 40));
            } else if (pick < 20) {
                range();
            } else if (pick < 40) {
                point();
            } else if (pick < 65) {
                change();
            } else if (pick < 68) {
                alias();
            } else {
                ask(pick);
            }
        }
    }

    private void place(int code, int name) {
        call = "place(" + code + ", " + name + ")";
        got = book.place(code, name);
        want = plain.place(code, name);
    }

    private void street(int place, int name) {
        call = "street(" + place + ", " + name + ")";
        got = book.street(place, name);
        want = plain.street(place, name);
    }

    private void range() {
        int street = number(1);
        int side = random.nextInt(40) == 0 ? oneOf(-1, 3) : random.nextInt(3);
        int low = house();
        int high = random.nextInt(20) == 0 ? house() : Math.min(low + random.nextInt(12), houses);
        int day = day();
        call = "range(" + street + ", " + side + ", " + low + ", " + high + ", " + day + ")";
        got = book.range(street, side, low, high, day);
        want = plain.range(street, side, low, high, day);
    }

    private void point() {
        int range = oneOf(-1, plain.ranges());
        int house = house();
        for (int tries = 0; tries < 30 && !plain.fits(range, house); tries++) {
            range = oneOf(0, plain.ranges());
            house = house();
        }
        int extra = random.nextInt(20) == 0 ? oneOf(-1, 26) : random.nextInt(3);
        call = "point(" + range + ", " + house + ", " + extra + ")";
        got = book.point(range, house, extra);
        want = plain.point(range, house, extra);
    }

    private void change() {
        int kind = random.nextInt(40) == 0 ? oneOf(-1, 5) : kind(random.nextInt(20));
        int a = kind < 2 ? oneOf(-1, plain.ranges()) : kind == 2 ? number(1) : oneOf(-1, plain.points());
        int b = kind == 2 ? number(1) : house();
        for (int tries = 0; tries < 20 && !mayGo(kind, a, b); tries++) {
            a = oneOf(0, kind == 1 ? plain.ranges() : plain.points());
            b = house();
        }
        int day = day();
        call = "change(" + kind + ", " + a + ", " + b + ", " + day + ")";
        got = book.change(kind, a, b, day);
        want = plain.change(kind, a, b, day);
    }

    private boolean mayGo(int kind, int a, int b) {
        return kind == 1 ? plain.fits(a, b) : kind != 3 || plain.canGet(a, b);
    }

    private static int kind(int pick) {
        return pick < 1 ? 0 : pick < 5 ? 1 : pick < 8 ? 2 : pick < 18 ? 3 : 4;
    }

    private void alias() {
        int street = number(1);
        int other = number(1);
        int day = day();
        call = "alias(" + street + ", " + other + ", " + day + ")";
        got = book.alias(street, other, day);
        want = plain.alias(street, other, day);
    }

    private void ask(int pick) {
        if (pick < 80) {
            askAt();
        } else if (pick < 84) {
            int street = number(1);
            int house = house();
            call = "near(" + street + ", " + house + ")";
            got = book.near(street, house);
            want = plain.near(street, house);
        } else if (pick < 88) {
            int point = oneOf(-1, plain.points());
            call = "order(" + point + ")";
            got = book.order(point);
            want = plain.order(point);
        } else if (pick < 92) {
            int street = number(1);
            call = "holes(" + street + ")";
            got = book.holes(street);
            want = plain.holes(street);
        } else if (pick < 97) {
            askWhere();
        } else {
            askRest();
        }
    }

    private void askAt() {
        int street = number(1);
        int house = house();
        int extra = random.nextInt(20) == 0 ? oneOf(-1, 26) : random.nextInt(3);
        int day = anyDay();
        int tries = random.nextInt(200);
        for (int t = 0; t < tries && plain.at(street, house, extra, day) == AddressBook.NONE; t++) {
            street = random.nextInt(plain.count(1));
            house = oneOf(1, houses);
            day = random.nextInt(plain.count(4) + 200);
        }
        call = "at(" + street + ", " + house + ", " + extra + ", " + day + ")";
        got = book.at(street, house, extra, day);
        want = plain.at(street, house, extra, day);
    }

    private void askWhere() {
        int point = random.nextInt(20) == 0 ? oneOf(-1, 120) : random.nextInt(Math.max(1, plain.points()));
        int what = random.nextInt(20) == 0 ? oneOf(-1, 4) : random.nextInt(4);
        int day = anyDay();
        call = "where(" + point + ", " + what + ", " + day + ")";
        got = book.where(point, what, day);
        want = plain.where(point, what, day);
    }

    private void askRest() {
        int what = oneOf(-1, 5);
        int code = oneOf(95, 110);
        int name = oneOf(-1, 40);
        call = "count(" + what + ") and find(" + code + ", " + name + ")";
        got = book.count(what) * 100 + book.find(code, name);
        want = plain.count(what) * 100 + plain.find(code, name);
    }

    private int number(int what) {
        return random.nextInt(40) == 0 ? oneOf(-1, 33) : random.nextInt(Math.max(1, plain.count(what)));
    }

    private int house() {
        return random.nextInt(60) == 0 ? 1000 * random.nextInt(2) : oneOf(1, houses);
    }

    private int day() {
        int today = plain.count(4);
        int pick = random.nextInt(60);
        if (pick == 0) {
            return today - 1;
        }
        return pick == 1 ? 1000001 : pick < 40 ? today : today + random.nextInt(daysAhead);
    }

    private int anyDay() {
        int today = plain.count(4);
        int pick = random.nextInt(60);
        if (pick == 0) {
            return random.nextBoolean() ? -1 : 1000001;
        }
        return pick < 20 ? today : pick < 30 ? today + random.nextInt(200) : random.nextInt(today + 1);
    }

    private int oneOf(int least, int most) {
        return least + random.nextInt(most - least + 1);
    }
}

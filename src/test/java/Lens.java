import java.util.ArrayList;
import java.util.List;
import java.util.function.Consumer;
import java.util.function.ToIntFunction;

/** Sees by very many calls how a book is; two books that look alike through it are in the same state. */
final class Lens {
    private record Look(String name, ToIntFunction<CountedBook> call) { }

    private static final int LAST_DAY = 1000000;

    private final int[] houses;
    private final int[] extras;
    private final int[] days;
    /** Looks that only ask: many of them share one object. */
    private final List<Look> asking = new ArrayList<>();
    /** Looks that tell something: each has an object of its own. */
    private final List<Look> telling = new ArrayList<>();

    Lens(int[] houses, int[] extras, int[] days) {
        this.houses = houses;
        this.extras = extras;
        this.days = days;
        for (int what = -1; what <= 5; what++) {
            int asked = what;
            ask("count(" + what + ")", book -> book.count(asked));
        }
    }

    private void ask(String name, ToIntFunction<CountedBook> call) {
        asking.add(new Look(name, call));
    }

    private void tell(String name, ToIntFunction<CountedBook> call) {
        telling.add(new Look(name, call));
    }

    Lens onPlaces(int[] places, int[] codes, int[] names) {
        for (int code : codes) {
            tell("place(" + code + ", 0)", book -> book.place(code, 0));
            for (int name : names) {
                ask("find(" + code + ", " + name + ")", book -> book.find(code, name));
            }
        }
        for (int place : places) {
            for (int name : names) {
                tell("street(" + place + ", " + name + ")", book -> book.street(place, name));
            }
        }
        return this;
    }

    Lens onStreets(int... streets) {
        for (int street : streets) {
            ask("holes(" + street + ")", book -> book.holes(street));
            for (int house : houses) {
                ask("near(" + street + ", " + house + ")", book -> book.near(street, house));
                tell("range(" + street + ", 0, " + house + ", " + house + ", 1000000)",
                        book -> book.range(street, 0, house, house, LAST_DAY));
                askAt(street, house);
            }
            for (int other : streets) {
                tell("alias(" + street + ", " + other + ", 1000000)", book -> book.alias(street, other, LAST_DAY));
                tell("change(2, " + street + ", " + other + ", 1000000)",
                        book -> book.change(2, street, other, LAST_DAY));
            }
        }
        return this;
    }

    private void askAt(int street, int house) {
        for (int extra : extras) {
            for (int day : days) {
                ask("at(" + street + ", " + house + ", " + extra + ", " + day + ")",
                        book -> book.at(street, house, extra, day));
            }
        }
    }

    Lens onRanges(int... ranges) {
        for (int range : ranges) {
            tell("change(0, " + range + ", 0, 1000000)", book -> book.change(0, range, 0, LAST_DAY));
            for (int house : houses) {
                tell("change(1, " + range + ", " + house + ", 1000000)",
                        book -> book.change(1, range, house, LAST_DAY));
                for (int extra : extras) {
                    tell("point(" + range + ", " + house + ", " + extra + ")",
                            book -> book.point(range, house, extra));
                }
            }
        }
        return this;
    }

    Lens onPoints(int... points) {
        for (int point : points) {
            ask("order(" + point + ")", book -> book.order(point));
            tell("change(4, " + point + ", 0, 1000000)", book -> book.change(4, point, 0, LAST_DAY));
            for (int house : houses) {
                tell("change(3, " + point + ", " + house + ", 1000000)",
                        book -> book.change(3, point, house, LAST_DAY));
            }
            for (int what = 0; what <= 3; what++) {
                int asked = what;
                for (int day : days) {
                    ask("where(" + point + ", " + what + ", " + day + ")", book -> book.where(point, asked, day));
                }
            }
        }
        return this;
    }

    int[] see(Consumer<CountedBook> told) {
        int[] seen = new int[asking.size() + telling.size()];
        int next = 0;
        CountedBook book = bookOf(told);
        for (Look look : asking) {
            if (book.callsLeft() == 0) {
                book = bookOf(told);
            }
            seen[next++] = look.call.applyAsInt(book);
        }
        for (Look look : telling) {
            seen[next++] = look.call.applyAsInt(bookOf(told));
        }
        return seen;
    }

    /** The name of the look that has another answer in the second picture than in the first; "" if none has. */
    String difference(int[] first, int[] second) {
        for (int i = 0; i < first.length; i++) {
            if (first[i] != second[i]) {
                Look look = i < asking.size() ? asking.get(i) : telling.get(i - asking.size());
                return look.name + " answers " + second[i] + " instead of " + first[i];
            }
        }
        return "";
    }

    private static CountedBook bookOf(Consumer<CountedBook> told) {
        CountedBook book = new CountedBook();
        told.accept(book);
        return book;
    }
}

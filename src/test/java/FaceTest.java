import java.lang.reflect.Field;
import java.lang.reflect.Method;
import java.lang.reflect.Modifier;
import java.util.Arrays;
import java.util.Set;
import java.util.TreeSet;

/** The public face: the document's constants, constructor and methods, and no other one. */
public final class FaceTest {
    private static final Set<String> METHODS = Set.of("place/2", "street/2", "find/2", "range/5", "point/3",
            "change/4", "alias/3", "at/4", "near/2", "order/1", "holes/1", "where/3", "count/1");
    private static final Set<String> CONSTANTS = Set.of("NONE", "UNKNOWN", "OUTSIDE", "STATE", "ROOM", "OVER");

    public static void main(String[] args) {
        Due due = new Due();
        Class<?> book = AddressBook.class;
        due.is("public final", book.getModifiers() & (Modifier.PUBLIC | Modifier.FINAL),
                Modifier.PUBLIC | Modifier.FINAL);
        due.is("constructors", book.getDeclaredConstructors().length, 1);
        due.is("public constructors", book.getConstructors().length, 1);
        due.is("the methods", methods(book).equals(METHODS) ? 1 : 0, 1);
        due.is("the constants", constants(book).equals(CONSTANTS) ? 1 : 0, 1);
        due.is("NONE", AddressBook.NONE, -1);
        due.is("UNKNOWN", AddressBook.UNKNOWN, -11);
        due.is("OUTSIDE", AddressBook.OUTSIDE, -12);
        due.is("STATE", AddressBook.STATE, -13);
        due.is("ROOM", AddressBook.ROOM, -14);
        due.is("OVER", AddressBook.OVER, -200);
        due.end();
    }

    private static Set<String> methods(Class<?> book) {
        Set<String> seen = new TreeSet<>();
        for (Method method : book.getDeclaredMethods()) {
            boolean plain = method.getModifiers() == Modifier.PUBLIC && method.getReturnType() == int.class
                    && Arrays.stream(method.getParameterTypes()).allMatch(type -> type == int.class);
            if (!Modifier.isPrivate(method.getModifiers())) {
                seen.add((plain ? "" : "not plain: ") + method.getName() + "/" + method.getParameterCount());
            }
        }
        return seen;
    }

    private static Set<String> constants(Class<?> book) {
        int wanted = Modifier.PUBLIC | Modifier.STATIC | Modifier.FINAL;
        Set<String> seen = new TreeSet<>();
        for (Field field : book.getDeclaredFields()) {
            if (!Modifier.isPrivate(field.getModifiers())) {
                boolean plain = field.getModifiers() == wanted && field.getType() == int.class;
                seen.add((plain ? "" : "not plain: ") + field.getName());
            }
        }
        return seen;
    }
}

import java.io.IOException;
import java.lang.reflect.Method;
import java.lang.reflect.Modifier;
import java.nio.file.Files;
import java.nio.file.Path;
import java.util.Arrays;
import java.util.regex.Matcher;
import java.util.regex.Pattern;

/** README.md: the calls of its example answer as it says, and it tells every call and every refusal. */
public final class ReadmeTest {
    private static final Pattern CALL = Pattern.compile("book\\.(\\w+)\\(([^)]*)\\); +// (-?\\d+)");
    private static final Pattern ROW = Pattern.compile("\\| `(\\w+)\\(([^)]*)\\)` \\|");

    private static final Due due = new Due();

    public static void main(String[] args) throws IOException, ReflectiveOperationException {
        String readme = Files.readString(Path.of("README.md"));
        example(readme);
        rows(readme);
        constants(readme);
        due.end();
    }

    private static void example(String readme) throws ReflectiveOperationException {
        due.of("README.md says how to use the class");
        AddressBook book = new AddressBook();
        Matcher call = CALL.matcher(readme);
        int calls = 0;
        while (call.find()) {
            int[] numbers = Arrays.stream(call.group(2).split(", ")).mapToInt(Integer::parseInt).toArray();
            Object got = method(call.group(1)).invoke(book, Arrays.stream(numbers).boxed().toArray());
            due.is(call.group(), (Integer) got, Integer.parseInt(call.group(3)));
            calls++;
        }
        due.is("lines of the example", calls, readme.split("\nbook\\.", -1).length - 1);
        for (Method method : AddressBook.class.getDeclaredMethods()) {
            if (isOfTheFace(method)) {
                due.is("the example has " + method.getName(), readme.contains("\nbook." + method.getName() + "(") ? 1 : 0, 1);
            }
        }
    }

    private static void rows(String readme) {
        due.of("what its calls take and answer");
        Matcher row = ROW.matcher(readme);
        int rows = 0;
        while (row.find()) {
            due.is("parameters of " + row.group(), row.group(2).split(", ").length,
                    method(row.group(1)).getParameterCount());
            rows++;
        }
        due.is("rows of calls", rows,
                Arrays.stream(AddressBook.class.getDeclaredMethods()).filter(ReadmeTest::isOfTheFace).count());
    }

    private static void constants(String readme) {
        due.of("what a refusal is");
        due.is("UNKNOWN", readme.contains("| `UNKNOWN` | " + AddressBook.UNKNOWN + " |") ? 1 : 0, 1);
        due.is("OUTSIDE", readme.contains("| `OUTSIDE` | " + AddressBook.OUTSIDE + " |") ? 1 : 0, 1);
        due.is("STATE", readme.contains("| `STATE` | " + AddressBook.STATE + " |") ? 1 : 0, 1);
        due.is("ROOM", readme.contains("| `ROOM` | " + AddressBook.ROOM + " |") ? 1 : 0, 1);
        due.is("OVER", readme.contains("| `OVER - r` | " + AddressBook.OVER + " - r |") ? 1 : 0, 1);
        due.is("NONE", readme.contains("`NONE` (" + AddressBook.NONE + ")") ? 1 : 0, 1);
    }

    private static Method method(String name) {
        return Arrays.stream(AddressBook.class.getDeclaredMethods())
                .filter(method -> isOfTheFace(method) && method.getName().equals(name)).findFirst().orElseThrow();
    }

    private static boolean isOfTheFace(Method method) {
        return Modifier.isPublic(method.getModifiers());
    }
}

import java.io.IOException;
import java.lang.reflect.Field;
import java.lang.reflect.Method;
import java.lang.reflect.Modifier;
import java.nio.file.Files;
import java.nio.file.Path;
import java.util.ArrayList;
import java.util.Arrays;
import java.util.List;
import java.util.Set;
import java.util.regex.Pattern;
import java.util.stream.Collectors;

/** What can be seen of LANGUAGE.md's rules in the class's source and in its members. */
public final class LanguageTest {
    private static final Path SOURCE = Path.of("src/main/java/AddressBook.java");
    private static final int MOST_CLASSES = 12, MOST_FIELDS = 20, MOST_PARAMETERS = 7, MOST_LINES = 60;

    private static final Due due = new Due();

    public static void main(String[] args) throws IOException {
        String code = withoutComments(Files.readString(SOURCE));
        List<Class<?>> classes = new ArrayList<>(List.of(AddressBook.class));
        classes.addAll(List.of(AddressBook.class.getDeclaredClasses()));
        due.is("rule 11: classes", classes.size() <= MOST_CLASSES ? 1 : 0, 1);
        for (Class<?> one : classes) {
            membersOf(one);
        }
        namesOf(classes);
        words(code);
        lengths(code);
        due.end();
    }

    private static String withoutComments(String source) {
        return source.replaceAll("(?s)/\\*.*?\\*/", "").replaceAll("//[^\n]*", "");
    }

    private static void membersOf(Class<?> one) {
        int fields = 0;
        for (Field field : one.getDeclaredFields()) {
            boolean isStatic = Modifier.isStatic(field.getModifiers());
            fields += isStatic ? 0 : 1;
            due.is("rule 5: " + field, !isStatic
                    || Modifier.isFinal(field.getModifiers()) && field.getType() == int.class ? 1 : 0, 1);
        }
        due.is("rule 11: fields of " + one, fields <= MOST_FIELDS ? 1 : 0, 1);
        for (Method method : one.getDeclaredMethods()) {
            due.is("rule 11: parameters of " + method, method.getParameterCount() <= MOST_PARAMETERS ? 1 : 0, 1);
        }
        if (one != AddressBook.class) {
            due.is("rule 1: " + one, one.getModifiers() & (Modifier.STATIC | Modifier.PUBLIC | Modifier.PROTECTED),
                    Modifier.STATIC);
        }
    }

    private static void namesOf(List<Class<?>> classes) {
        Set<String> face = Arrays.stream(AddressBook.class.getMethods())
                .filter(method -> method.getDeclaringClass() == AddressBook.class)
                .map(Method::getName).collect(Collectors.toSet());
        for (Class<?> one : classes) {
            for (Method method : one.getDeclaredMethods()) {
                due.is("rule 1: a private method of a public one's name, " + method,
                        !Modifier.isPublic(method.getModifiers()) && face.contains(method.getName()) ? 1 : 0, 0);
            }
        }
    }

    private static void words(String code) {
        for (String word : new String[] {"package", "import", "try", "catch", "throw", "throws", "finally", "synchronized",
            "assert", "instanceof", "volatile", "native", "System", "Thread", "Object", "Runtime", "equals", "hashCode",
            "toString"}) {
            due.is("the word " + word, Pattern.compile("\\b" + word + "\\b").matcher(code).find() ? 1 : 0, 0);
        }
        for (String sign : new String[] {"->", "::", "Exact(", "\"", "[][]", "%"}) {
            due.is("the sign " + sign, code.contains(sign) ? 1 : 0, 0);
        }
        for (String line : code.split("\n")) {
            if (line.contains("new ")) {
                due.is("rule 12: made with the object, " + line.strip(), line.contains("private final ") ? 1 : 0, 1);
            }
            if (line.contains(" / ")) {
                due.is("rule 7: a divisor that is written, " + line.strip(), line.matches(".* / [1-9]\\d*\\b.*") ? 1 : 0, 1);
            }
            if (line.matches(".*\\bwhile\\b.*")) {
                due.is("rule 9: a loop that does not count, " + line.strip(), 1, 0);
            }
        }
    }

    /** A method ends at the brace that is indented as its first line is. */
    private static void lengths(String code) {
        String[] lines = code.split("\n");
        for (int first = 0; first < lines.length; first++) {
            if (lines[first].matches(" +(public|private) .*\\{") && !lines[first].contains(" class ")) {
                String end = lines[first].substring(0, lines[first].indexOf('p')) + "}";
                int last = first;
                while (last < lines.length && !lines[last].equals(end)) {
                    last++;
                }
                due.is("rule 11: lines of " + lines[first].strip(), last - first < MOST_LINES ? 1 : 0, 1);
            }
        }
    }
}

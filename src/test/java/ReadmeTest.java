import java.io.IOException;
import java.lang.reflect.Method;
import java.lang.reflect.Modifier;
import java.nio.file.Files;
import java.nio.file.Path;
import java.util.Arrays;
import java.util.Set;
import java.util.TreeSet;
import java.util.regex.Matcher;
import java.util.regex.Pattern;

/** README.md's examples, each answer against the class's; and that its table has every call. */
public final class ReadmeTest {
    private static final String NEW_OBJECT = "BoundWalks land = new BoundWalks();";
    private static final Pattern CALL = Pattern.compile("land\\.(\\w+)\\(([-\\d, ]*)\\); +// (-?\\d+|NONE|BAD|NOT|FULL)\\b.*");
    private static final Pattern ROW = Pattern.compile("\\| `(\\w+)\\(([\\w, ]*)\\)` \\|.*");

    public static void main(String[] args) throws IOException, ReflectiveOperationException {
        String[] lines = Files.readString(Path.of("README.md")).split("\n");
        Set<String> left = examples(lines);
        Checks.holds("every call is in an example, but for " + left, left.isEmpty());
        table(lines);
        Checks.end("ReadmeTest");
    }

    /** Plays the examples; answers the calls that none of them has. */
    private static Set<String> examples(String[] lines) throws ReflectiveOperationException {
        Set<String> left = namesOfTheFace();
        BoundWalks land = null;
        boolean isExample = false;
        for (String line : lines) {
            if (line.startsWith("```")) {
                isExample = line.equals("```java");
            } else if (isExample && line.equals(NEW_OBJECT)) {
                land = new BoundWalks();
            } else if (isExample) {
                left.remove(play(land, line));
            }
        }
        return left;
    }

    private static String play(BoundWalks land, String line) throws ReflectiveOperationException {
        Matcher call = CALL.matcher(line);
        if (land == null || !call.matches()) {
            Checks.holds("an example with an object and an answer: " + line, false);
            return "";
        }
        int[] numbers = numbers(call.group(2));
        Object[] arguments = new Object[numbers.length];
        for (int i = 0; i < numbers.length; i++) {
            arguments[i] = numbers[i];
        }
        Object got = method(call.group(1), numbers.length).invoke(land, arguments);
        Checks.due(line, (Integer) got, answer(call.group(3)));
        return call.group(1);
    }

    private static int[] numbers(String list) {
        String[] parts = list.isEmpty() ? new String[0] : list.split(", ");
        int[] numbers = new int[parts.length];
        for (int i = 0; i < parts.length; i++) {
            numbers[i] = Integer.parseInt(parts[i]);
        }
        return numbers;
    }

    private static Method method(String name, int parameters) throws NoSuchMethodException {
        Class<?>[] types = new Class<?>[parameters];
        Arrays.fill(types, int.class);
        return BoundWalks.class.getMethod(name, types);
    }

    private static int answer(String word) throws ReflectiveOperationException {
        return Character.isLetter(word.charAt(0)) ? BoundWalks.class.getField(word).getInt(null) : Integer.parseInt(word);
    }

    private static void table(String[] lines) {
        Set<String> rows = new TreeSet<>();
        for (String line : lines) {
            Matcher row = ROW.matcher(line);
            if (row.matches()) {
                int parameters = row.group(2).isEmpty() ? 0 : row.group(2).split(", ").length;
                Checks.holds("the table's " + row.group(1), hasMethod(row.group(1), parameters));
                rows.add(row.group(1));
            }
        }
        Checks.holds("the table has every call: " + rows, rows.equals(namesOfTheFace()));
    }

    private static boolean hasMethod(String name, int parameters) {
        for (Method method : BoundWalks.class.getDeclaredMethods()) {
            if (method.getName().equals(name) && method.getParameterCount() == parameters) {
                return true;
            }
        }
        return false;
    }

    private static Set<String> namesOfTheFace() {
        Set<String> names = new TreeSet<>();
        for (Method method : BoundWalks.class.getDeclaredMethods()) {
            if (Modifier.isPublic(method.getModifiers())) {
                names.add(method.getName());
            }
        }
        return names;
    }
}

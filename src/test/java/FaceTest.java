import java.io.IOException;
import java.lang.reflect.Constructor;
import java.lang.reflect.Field;
import java.lang.reflect.Method;
import java.lang.reflect.Modifier;
import java.nio.file.Files;
import java.nio.file.Path;
import java.util.Set;
import java.util.StringJoiner;
import java.util.TreeSet;
import java.util.regex.Matcher;
import java.util.regex.Pattern;

/** The document's public face, and the rules of LANGUAGE.md that can be seen from outside. */
public final class FaceTest {
    private static final Path DOCUMENT = Path.of("../shared/DOC.md");
    private static final int CALLS = 24;
    private static final Set<String> NAMES = new TreeSet<>();
    private static final String[] FORBIDDEN = {"throw", "throws", "try", "catch", "synchronized", "assert", "import",
        "package", "->", "::", "@", "Exact", "System", "Thread", "Object", "hashCode", "toString", "protected"};
    private static final int MOST_PARAMETERS = 7, MOST_LINES = 60, MOST_FIELDS = 20, MOST_CLASSES = 12;

    public static void main(String[] args) throws IOException, IllegalAccessException {
        face(Files.readString(DOCUMENT));
        for (Class<?> inside : BoundWalks.class.getDeclaredClasses()) {
            nested(inside);
        }
        Checks.holds("rule 11: classes", BoundWalks.class.getDeclaredClasses().length < MOST_CLASSES);
        members(BoundWalks.class);
        source(Files.readString(Path.of("src/main/java/BoundWalks.java")));
        Checks.end("FaceTest");
    }

    /** Each public member, written as the document writes it. */
    private static void face(String document) throws IllegalAccessException {
        Checks.holds("the class is public and final", BoundWalks.class.getModifiers() == (Modifier.PUBLIC | Modifier.FINAL));
        Set<String> told = new TreeSet<>();
        Matcher line = Pattern.compile("\\n    (public [^;]*);").matcher(document);
        while (line.find()) {
            told.addAll(membersOf(line.group(1)));
        }
        Set<String> seen = new TreeSet<>();
        for (Constructor<?> constructor : BoundWalks.class.getDeclaredConstructors()) {
            seen.add(written(constructor.getModifiers(), "BoundWalks", constructor.getParameterTypes()));
        }
        for (Method method : BoundWalks.class.getDeclaredMethods()) {
            if (!Modifier.isPrivate(method.getModifiers())) {
                NAMES.add(method.getName());
                String head = method.getReturnType() + " " + method.getName();
                seen.add(written(method.getModifiers(), head, method.getParameterTypes()));
            }
        }
        seen.addAll(constants());
        Checks.due("the document's calls", NAMES.size(), CALLS);
        Checks.holds("the face " + seen + " as told " + told, seen.equals(told));
    }

    /** A line of the document's face, without the parameters' names; a line of constants is several members. */
    private static Set<String> membersOf(String line) {
        Set<String> members = new TreeSet<>();
        int constants = line.indexOf(" int NONE");
        if (constants < 0) {
            members.add(line.replaceAll("(int) \\w+(?=[,)])", "$1"));
        } else {
            for (String constant : line.substring(constants + " int ".length()).split(", ")) {
                members.add(line.substring(0, constants) + " int " + constant);
            }
        }
        return members;
    }

    private static String written(int modifiers, String head, Class<?>[] parameters) {
        StringJoiner list = new StringJoiner(", ", "(", ")");
        for (Class<?> parameter : parameters) {
            list.add(parameter.getName());
        }
        return Modifier.toString(modifiers) + " " + head + list;
    }

    private static Set<String> constants() throws IllegalAccessException {
        Set<String> constants = new TreeSet<>();
        for (Field field : BoundWalks.class.getDeclaredFields()) {
            if (!Modifier.isPrivate(field.getModifiers())) {
                Object value = Modifier.isStatic(field.getModifiers()) ? field.get(null) : "no constant";
                constants.add(Modifier.toString(field.getModifiers()) + " " + field.getType() + " " + field.getName()
                    + " = " + value);
            }
        }
        return constants;
    }

    private static void nested(Class<?> inside) {
        int modifiers = inside.getModifiers();
        Checks.holds("rule 1: " + inside, Modifier.isStatic(modifiers) && !Modifier.isPublic(modifiers)
            && !Modifier.isProtected(modifiers));
        for (Method method : inside.getDeclaredMethods()) {
            Checks.holds("rule 1: " + method, !isOfTheFace(method.getName()));
        }
        members(inside);
    }

    private static void members(Class<?> owner) {
        int fields = 0;
        for (Field field : owner.getDeclaredFields()) {
            if (Modifier.isStatic(field.getModifiers())) {
                Checks.holds("rule 5: " + field, Modifier.isFinal(field.getModifiers()));
            } else {
                fields++;
            }
        }
        Checks.holds("rule 11: fields of " + owner, fields <= MOST_FIELDS);
        for (Method method : owner.getDeclaredMethods()) {
            boolean isPrivate = Modifier.isPrivate(method.getModifiers());
            Checks.holds("rule 1: the name of " + method, !isPrivate || !isOfTheFace(method.getName()));
            // The document's own house() has eight.
            Checks.holds("rule 11: " + method, method.getParameterCount() <= MOST_PARAMETERS
                || !isPrivate && method.getName().equals("house"));
        }
    }

    private static boolean isOfTheFace(String name) {
        return NAMES.contains(name);
    }

    private static void source(String text) {
        String code = text.replaceAll("(?s)/\\*.*?\\*/", "").replaceAll("//[^\n]*", "");
        for (String word : FORBIDDEN) {
            boolean isWord = Character.isLetter(word.charAt(0)) && !word.equals("Exact");
            Pattern pattern = Pattern.compile(isWord ? "\\b" + word + "\\b" : Pattern.quote(word));
            Checks.holds("rules 2, 4, 6: no " + word, !pattern.matcher(code).find());
        }
        Matcher library = Pattern.compile("\\b(Math|Integer|Long|Arrays)\\.(\\w+)").matcher(code);
        while (library.find()) {
            Checks.holds("rule 4: " + library.group(), Set.of("min", "max", "bitCount").contains(library.group(2)));
        }
        methodLengths(code);
    }

    private static void methodLengths(String code) {
        int started = 0;
        int indent = 0;
        String[] lines = code.split("\n");
        for (int i = 0; i < lines.length; i++) {
            Matcher head = Pattern.compile("^( {4}| {8})(public|private|int|void|boolean)\\b.*\\).*").matcher(lines[i]);
            if (head.matches() && !lines[i].contains("=")) {
                started = i;
                indent = head.group(1).length();
            }
            if (lines[i].equals(" ".repeat(Math.max(indent, 1)) + "}")) {
                Checks.holds("rule 11: the length of " + lines[started].trim(), i - started < MOST_LINES);
            }
        }
    }
}

import java.io.IOException;
import java.lang.reflect.Constructor;
import java.lang.reflect.Field;
import java.lang.reflect.Method;
import java.lang.reflect.Modifier;
import java.nio.file.Files;
import java.nio.file.Path;
import java.util.Arrays;
import java.util.Set;
import java.util.TreeSet;
import java.util.regex.Matcher;
import java.util.regex.Pattern;

/** The document's public face, and the rules of LANGUAGE.md that can be seen from outside. */
public final class FaceTest {
    private static final Set<String> FACE = new TreeSet<>(Arrays.asList("parish 2", "leg 4", "unleg 1", "length 2",
        "area 1", "claims 2", "agree 6", "owner 3", "quarrel 1", "years 1", "stone 2", "moved 4", "lost 2", "where 3",
        "witness 1", "remember 2", "house 8", "law 3", "whose 3", "see 1", "gap 1", "due 0", "round 2", "count 1"));
    private static final Set<String> CONSTANTS = new TreeSet<>(Arrays.asList("NONE", "BAD", "NOT", "FULL"));
    private static final String[] FORBIDDEN = {"throw", "throws", "try", "catch", "synchronized", "assert", "import",
        "package", "->", "::", "@", "Exact", "System", "Thread", "Object", "hashCode", "toString", "protected"};
    private static final int MOST_PARAMETERS = 7, MOST_LINES = 60, MOST_FIELDS = 20, MOST_CLASSES = 12;

    public static void main(String[] args) throws IOException {
        face();
        for (Class<?> inside : BoundWalks.class.getDeclaredClasses()) {
            nested(inside);
        }
        Checks.holds("rule 11: classes", BoundWalks.class.getDeclaredClasses().length < MOST_CLASSES);
        members(BoundWalks.class);
        source(Files.readString(Path.of("src/main/java/BoundWalks.java")));
        Checks.end("FaceTest");
    }

    private static void face() {
        Checks.holds("the class is public and final", BoundWalks.class.getModifiers() == (Modifier.PUBLIC | Modifier.FINAL));
        Constructor<?>[] constructors = BoundWalks.class.getDeclaredConstructors();
        Checks.holds("one public constructor without parameters", constructors.length == 1
            && constructors[0].getParameterCount() == 0 && Modifier.isPublic(constructors[0].getModifiers()));
        Set<String> seen = new TreeSet<>();
        for (Method method : BoundWalks.class.getDeclaredMethods()) {
            if (!Modifier.isPrivate(method.getModifiers())) {
                seen.add(method.getName() + " " + method.getParameterCount());
                Checks.holds(method + " is public, of the object, and answers int",
                    method.getModifiers() == Modifier.PUBLIC && method.getReturnType() == int.class);
            }
        }
        Checks.holds("the face " + seen, seen.equals(FACE));
        Set<String> constants = new TreeSet<>();
        for (Field field : BoundWalks.class.getDeclaredFields()) {
            if (!Modifier.isPrivate(field.getModifiers())) {
                constants.add(field.getName());
                Checks.holds(field + " is a constant", field.getType() == int.class
                    && field.getModifiers() == (Modifier.PUBLIC | Modifier.STATIC | Modifier.FINAL));
            }
        }
        Checks.holds("the constants " + constants, constants.equals(CONSTANTS));
    }

    private static void nested(Class<?> inside) {
        int modifiers = inside.getModifiers();
        Checks.holds("rule 1: " + inside, Modifier.isStatic(modifiers) && !Modifier.isPublic(modifiers)
            && !Modifier.isProtected(modifiers));
        for (Method method : inside.getDeclaredMethods()) {
            Checks.holds("rule 1: " + method, !isOfTheFace(method.getName()));
        }
        members(inside);
    }

    private static void members(Class<?> owner) {
        int fields = 0;
        for (Field field : owner.getDeclaredFields()) {
            if (Modifier.isStatic(field.getModifiers())) {
                Checks.holds("rule 5: " + field, Modifier.isFinal(field.getModifiers()));
            } else {
                fields++;
            }
        }
        Checks.holds("rule 11: fields of " + owner, fields <= MOST_FIELDS);
        for (Method method : owner.getDeclaredMethods()) {
            boolean isPrivate = Modifier.isPrivate(method.getModifiers());
            Checks.holds("rule 1: the name of " + method, !isPrivate || !isOfTheFace(method.getName()));
            // The document's own house() has eight.
            Checks.holds("rule 11: " + method, method.getParameterCount() <= MOST_PARAMETERS
                || !isPrivate && method.getName().equals("house"));
        }
    }

    private static boolean isOfTheFace(String name) {
        return FACE.stream().anyMatch(entry -> entry.startsWith(name + " "));
    }

    private static void source(String text) {
        String code = text.replaceAll("(?s)/\\*.*?\\*/", "").replaceAll("//[^\n]*", "");
        for (String word : FORBIDDEN) {
            boolean isWord = Character.isLetter(word.charAt(0)) && !word.equals("Exact");
            Pattern pattern = Pattern.compile(isWord ? "\\b" + word + "\\b" : Pattern.quote(word));
            Checks.holds("rules 2, 4, 6: no " + word, !pattern.matcher(code).find());
        }
        Matcher library = Pattern.compile("\\b(Math|Integer|Long|Arrays)\\.(\\w+)").matcher(code);
        while (library.find()) {
            Checks.holds("rule 4: " + library.group(), Set.of("min", "max", "bitCount").contains(library.group(2)));
        }
        methodLengths(code);
    }

    private static void methodLengths(String code) {
        int started = 0;
        int indent = 0;
        String[] lines = code.split("\n");
        for (int i = 0; i < lines.length; i++) {
            Matcher head = Pattern.compile("^( {4}| {8})(public|private|int|void|boolean)\\b.*\\).*").matcher(lines[i]);
            if (head.matches() && !lines[i].contains("=")) {
                started = i;
                indent = head.group(1).length();
            }
            if (lines[i].equals(" ".repeat(Math.max(indent, 1)) + "}")) {
                Checks.holds("rule 11: the length of " + lines[started].trim(), i - started < MOST_LINES);
            }
        }
    }
}

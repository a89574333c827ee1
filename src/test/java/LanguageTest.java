import java.lang.reflect.Field;
import java.lang.reflect.Method;
import java.lang.reflect.Modifier;
import java.nio.file.Files;
import java.nio.file.Path;
import java.util.List;
import java.util.Set;
import java.util.regex.Matcher;
import java.util.regex.Pattern;

/** Those rules of LANGUAGE.md that a program can see, by their numbers. */
public final class LanguageTest {
    private static final int MOST_LINES = 60, MOST_CLASSES = 12, MOST_FIELDS = 20, MOST_PARAMETERS = 7;
    private static final String[] RULED_OUT_WORDS = {
        "throw", "throws", "try", "catch", "finally", "synchronized", "assert", "import", "package", "equals",
        "hashCode", "toString", "Random", "Thread", "double", "float"
    };
    private static final String[] RULED_OUT = {
        "->", "::", "Exact(", "static {", "while (true)", "for (;;)"
    };
    private static final Set<String> LIBRARY = Set.of("Math.abs", "Math.floorDiv", "Math.max", "Math.min",
        "System.arraycopy");
    private static final Set<Class<?>> STATIC_TYPES = Set.of(int.class, long.class, int[].class);
    // The first line of a method or a constructor, of the class or of one inside it: its indent and its name.
    private static final Pattern HEAD = Pattern.compile("^( {4}| {8})(?:[a-zA-Z]+ )*(\\w+)\\([^()]*\\) \\{$");

    private static final Due due = new Due();

    public static void main(String[] args) throws Exception {
        String text = Files.readString(Path.of("src/main/java/FourParts.java"));
        classesInside();
        staticFields(FourParts.class);
        for (Class<?> inside : FourParts.class.getDeclaredClasses()) {
            staticFields(inside);
        }
        words(text);
        library(text);
        methods(text.lines().toList());
        due.end();
    }

    /** Rules 1, 2 and 11. */
    private static void classesInside() {
        Class<?>[] all = FourParts.class.getDeclaredClasses();
        due.holds("no more than twelve classes", all.length < MOST_CLASSES);
        for (Class<?> inside : all) {
            due.holds(inside + " is static", Modifier.isStatic(inside.getModifiers()));
            due.holds(inside + " is not public", !Modifier.isPublic(inside.getModifiers()));
            due.is(inside + " has no classes", inside.getDeclaredClasses().length, 0);
            for (Method method : inside.getDeclaredMethods()) {
                due.holds(method + " takes at most seven", method.getParameterCount() <= MOST_PARAMETERS);
            }
        }
    }

    /** Rules 5 and 11. */
    private static void staticFields(Class<?> owner) {
        int fields = 0;
        for (Field field : owner.getDeclaredFields()) {
            if (Modifier.isStatic(field.getModifiers())) {
                due.holds(field + " is final", Modifier.isFinal(field.getModifiers()));
                due.holds(field + " is of a sort that may be", STATIC_TYPES.contains(field.getType()));
            } else {
                fields++;
            }
        }
        due.holds(owner + " has few fields", fields <= MOST_FIELDS);
    }

    /** Rules 2 to 6, 9 and 13. */
    private static void words(String text) {
        for (String word : RULED_OUT_WORDS) {
            due.holds("the source is without " + word, !Pattern.compile("\\b" + word + "\\b").matcher(text).find());
        }
        for (String sign : RULED_OUT) {
            due.holds("the source is without " + sign, !text.contains(sign));
        }
        due.holds("characters 0 to 255", text.chars().allMatch(c -> c < 256));
    }

    /** Rule 4. */
    private static void library(String text) {
        Matcher call = Pattern.compile("\\b(Math|System|Arrays|Integer|Long|String|List)\\.\\w+").matcher(text);
        while (call.find()) {
            due.holds(call.group() + " may be used", LIBRARY.contains(call.group()));
        }
    }

    /** Rules 11 and 12: short methods; no object or array is made but with the object itself. */
    private static void methods(List<String> lines) {
        int seen = 0;
        for (int at = 0; at < lines.size(); at++) {
            Matcher head = HEAD.matcher(lines.get(at));
            if (!head.matches() || isControl(head.group(2))) {
                continue;
            }
            int end = at + lines.subList(at, lines.size()).indexOf(head.group(1) + "}");
            due.holds(head.group(2) + " has an end", end > at);
            due.holds(head.group(2) + " is short", end - at < MOST_LINES);
            boolean constructor = Character.isUpperCase(head.group(2).charAt(0));
            for (String line : lines.subList(at, end)) {
                due.holds("made in " + head.group(2) + ": " + line, constructor || !line.contains("new "));
            }
            seen++;
        }
        due.holds("all methods are seen", seen == declared());
    }

    private static boolean isControl(String name) {
        return Set.of("if", "for", "while", "switch").contains(name);
    }

    /** The methods, and the constructors that are written out: those of the class, of the ways and of the norms. */
    private static int declared() {
        int count = FourParts.class.getDeclaredMethods().length + 3;
        for (Class<?> inside : FourParts.class.getDeclaredClasses()) {
            count += inside.getDeclaredMethods().length;
        }
        return count;
    }
}

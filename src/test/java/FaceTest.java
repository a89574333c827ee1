import java.lang.reflect.Constructor;
import java.lang.reflect.Field;
import java.lang.reflect.Method;
import java.lang.reflect.Modifier;
import java.nio.file.Files;
import java.nio.file.Path;
import java.util.Set;
import java.util.TreeSet;

/** The public face, and those rules of LANGUAGE.md that can be seen without reading. */
public final class FaceTest {
    private static final Set<String> METHODS = Set.of(
        "int sheet(int,int,int)", "int put(int,int,long)", "int copy(int,int,int,int,int)",
        "int read(int,int,int)", "int write(int,int,int)", "int set(int,int,int,int,int)",
        "int part(int,int)", "int work(int,int,int,int)", "int unit(int,int,int,int)",
        "int divide(int,int,int,int,int)", "int divisor(int,int,int,int)", "int like(int,int,int)",
        "int way(int,int,int,int)", "int factor(int,int)", "int many(int,int)",
        "int listed(int,int,int)", "int turn(int,int,int)", "long turned(int,int,int,int,int)");
    private static final Set<String> CONSTANTS = Set.of("BAD", "NO", "HIGH", "NONE");
    private static final String[] RULED_OUT = {
        "throw", "try", "catch", "synchronized", "assert", "import", "package", "->", "::", "equals(",
        "hashCode", "toString", "Exact(", "System.out", "System.exit", "Random", "nanoTime"
    };

    private static final Due due = new Due();

    public static void main(String[] args) throws Exception {
        due.is("BAD", FourParts.BAD, -1);
        due.is("NO", FourParts.NO, -2);
        due.is("HIGH", FourParts.HIGH, -3);
        due.is("NONE", FourParts.NONE, -4);
        due.holds("the class is public and final",
            (FourParts.class.getModifiers() & (Modifier.PUBLIC | Modifier.FINAL))
                == (Modifier.PUBLIC | Modifier.FINAL));
        constructors();
        methods();
        fields();
        classesInside();
        source();
        due.end();
    }

    private static void constructors() {
        Constructor<?>[] all = FourParts.class.getDeclaredConstructors();
        due.is("constructors", all.length, 1);
        due.holds("the constructor is public", Modifier.isPublic(all[0].getModifiers()));
        due.is("its parameters", all[0].getParameterCount(), 0);
    }

    private static void methods() {
        Set<String> seen = new TreeSet<>();
        Set<String> names = new TreeSet<>();
        for (Method method : FourParts.class.getDeclaredMethods()) {
            if (Modifier.isPublic(method.getModifiers())) {
                seen.add(told(method));
                names.add(method.getName());
            }
        }
        due.holds("the public methods are " + seen, seen.equals(new TreeSet<>(METHODS)));
        for (Method method : FourParts.class.getDeclaredMethods()) {
            boolean open = Modifier.isPublic(method.getModifiers());
            due.holds(method + " is public or private", open || Modifier.isPrivate(method.getModifiers()));
            due.holds(method + " bears a name of its own", open || !names.contains(method.getName()));
        }
    }

    private static String told(Method method) {
        StringBuilder text = new StringBuilder();
        text.append(method.getReturnType()).append(' ').append(method.getName()).append('(');
        for (int i = 0; i < method.getParameterCount(); i++) {
            text.append(i == 0 ? "" : ",").append(method.getParameterTypes()[i]);
        }
        return text.append(')').toString();
    }

    private static void fields() {
        for (Field field : FourParts.class.getDeclaredFields()) {
            boolean constant = CONSTANTS.contains(field.getName());
            due.holds(field + " is in the face or private",
                constant ? Modifier.isPublic(field.getModifiers()) : Modifier.isPrivate(field.getModifiers()));
            due.holds(field + " is final", Modifier.isFinal(field.getModifiers()));
        }
    }

    private static void classesInside() {
        due.holds("no more than twelve classes", FourParts.class.getDeclaredClasses().length < 12);
        for (Class<?> inside : FourParts.class.getDeclaredClasses()) {
            due.holds(inside + " is static", Modifier.isStatic(inside.getModifiers()));
            due.holds(inside + " is not public", !Modifier.isPublic(inside.getModifiers()));
            for (Method method : inside.getDeclaredMethods()) {
                due.holds(method + " takes at most seven", method.getParameterCount() <= 7);
            }
        }
    }

    private static void source() throws Exception {
        String text = Files.readString(Path.of("src/main/java/FourParts.java"));
        for (String word : RULED_OUT) {
            due.holds("the source is without " + word, !text.contains(word));
        }
    }
}

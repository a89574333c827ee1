import java.lang.reflect.Constructor;
import java.lang.reflect.Field;
import java.lang.reflect.Method;
import java.lang.reflect.Modifier;
import java.nio.file.Files;
import java.nio.file.Path;
import java.util.Set;
import java.util.TreeSet;

/** The public face, in its order, and the example of README.md. */
public final class FaceTest {
    private static final Set<String> METHODS = Set.of(
        "int sheet(int,int,int)", "int put(int,int,long)", "int copy(int,int,int,int,int)",
        "int read(int,int,int)", "int write(int,int,int)", "int set(int,int,int,int,int)",
        "int part(int,int)", "int work(int,int,int,int)", "int unit(int,int,int,int)",
        "int divide(int,int,int,int,int)", "int divisor(int,int,int,int)", "int like(int,int,int)",
        "int way(int,int,int,int)", "int factor(int,int)", "int many(int,int)",
        "int listed(int,int,int)", "int turn(int,int,int)", "long turned(int,int,int,int,int)");
    private static final Set<String> CONSTANTS = Set.of("BAD", "NO", "HIGH", "NONE");
    /** The face from its first line to its last; "----" stands for a line of the interface between the calls. */
    private static final String[] ORDER = {
        "public final class FourParts {",
        "public static final int BAD = -1, NO = -2, HIGH = -3, NONE = -4;",
        "public FourParts()",
        "---- sheets",
        "public int sheet(int r, int kind, int n)",
        "public int put(int r, int i, long v)",
        "public int copy(int r, int i, int t, int j, int n)",
        "public int read(int s, int r, int i)",
        "public int write(int s, int r, int i)",
        "---- numbers",
        "public int set(int s, int a, int b, int c, int d)",
        "public int part(int s, int what)",
        "public int work(int s, int how, int t, int u)",
        "public int unit(int s, int t, int u, int side)",
        "public int divide(int s, int r, int t, int u, int side)",
        "public int divisor(int s, int t, int u, int side)",
        "public int like(int s, int t, int side)",
        "---- ways",
        "public int way(int s, int r, int i, int n)",
        "public int factor(int s, int k)",
        "---- norms",
        "public int many(int n, int what)",
        "public int listed(int s, int n, int i)",
        "---- turns",
        "public int turn(int s, int i, int j)",
        "public long turned(int s, int x, int y, int z, int i)"
    };

    private static final Due due = new Due();

    public static void main(String[] args) throws Exception {
        due.is("BAD", FourParts.BAD, -1);
        due.is("NO", FourParts.NO, -2);
        due.is("HIGH", FourParts.HIGH, -3);
        due.is("NONE", FourParts.NONE, -4);
        due.holds("the class is public and final",
            (FourParts.class.getModifiers() & (Modifier.PUBLIC | Modifier.FINAL))
                == (Modifier.PUBLIC | Modifier.FINAL));
        constructors();
        methods();
        fields();
        order();
        use();
        due.end();
    }

    private static void constructors() {
        Constructor<?>[] all = FourParts.class.getDeclaredConstructors();
        due.is("constructors", all.length, 1);
        due.holds("the constructor is public", Modifier.isPublic(all[0].getModifiers()));
        due.is("its parameters", all[0].getParameterCount(), 0);
    }

    private static void methods() {
        Set<String> seen = new TreeSet<>();
        Set<String> names = new TreeSet<>();
        for (Method method : FourParts.class.getDeclaredMethods()) {
            if (Modifier.isPublic(method.getModifiers())) {
                seen.add(told(method));
                names.add(method.getName());
            }
        }
        due.holds("the public methods are " + seen, seen.equals(new TreeSet<>(METHODS)));
        for (Method method : FourParts.class.getDeclaredMethods()) {
            boolean open = Modifier.isPublic(method.getModifiers());
            due.holds(method + " is public or private", open || Modifier.isPrivate(method.getModifiers()));
            due.holds(method + " bears a name of its own", open || !names.contains(method.getName()));
        }
    }

    private static String told(Method method) {
        StringBuilder text = new StringBuilder();
        text.append(method.getReturnType()).append(' ').append(method.getName()).append('(');
        for (int i = 0; i < method.getParameterCount(); i++) {
            text.append(i == 0 ? "" : ",").append(method.getParameterTypes()[i]);
        }
        return text.append(')').toString();
    }

    private static void fields() {
        for (Field field : FourParts.class.getDeclaredFields()) {
            boolean constant = CONSTANTS.contains(field.getName());
            due.holds(field + " is in the face or private",
                constant ? Modifier.isPublic(field.getModifiers()) : Modifier.isPrivate(field.getModifiers()));
            due.holds(field + " is final", Modifier.isFinal(field.getModifiers()));
        }
    }

    private static void order() throws Exception {
        String text = Files.readString(Path.of("src/main/java/FourParts.java"));
        int at = 0;
        for (String line : ORDER) {
            int next = text.indexOf(line, at);
            due.holds("in its order: " + line, next >= 0);
            due.is("once: " + line, text.lastIndexOf(line), next);
            at = Math.max(at, next);
        }
    }

    /** README.md tells these calls with these answers. */
    private static void use() throws Exception {
        FourParts x = new FourParts();
        due.is("set", x.set(0, 6, 4, 2, 0), 0);
        due.is("sheet", x.sheet(0, 1, 2), 0);
        due.is("put", x.put(0, 0, 2), 0);
        due.is("put", x.put(0, 1, 7), 0);
        due.is("way", x.way(0, 0, 0, 2), 2);
        due.is("factor", x.factor(1, 0), 2);
        due.is("part", x.part(1, 1), 2);
        String readme = Files.readString(Path.of("README.md"));
        String[] calls = {"x.set(0, 6, 4, 2, 0);", "x.sheet(0, 1, 2);", "x.put(0, 0, 2);", "x.put(0, 1, 7);",
            "x.way(0, 0, 0, 2);", "x.factor(1, 0);", "x.part(1, 1);"};
        for (String call : calls) {
            due.holds("README.md tells " + call, readme.contains(call));
        }
    }
}

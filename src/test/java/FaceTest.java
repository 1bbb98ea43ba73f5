import java.lang.reflect.Constructor;
import java.lang.reflect.Field;
import java.lang.reflect.Method;
import java.lang.reflect.Modifier;
import java.util.Arrays;
import java.util.Set;
import java.util.TreeSet;

/** The face of the document and nothing beside it. */
public final class FaceTest {
    private static final String INDEX = "IndexOutOfBoundsException";
    private static final String TURN = "IllegalStateException";
    private static final String RANGE = "IllegalArgumentException";
    private static final String MEANING = "UnsupportedOperationException";

    private static final Set<String> DUE = new TreeSet<>(Arrays.asList(
        face("int", "want", 3, RANGE, MEANING),
        face("void", "bar", 2, RANGE),
        face("void", "crop", 2, RANGE, MEANING),
        face("void", "known", 1, RANGE, MEANING),
        face("int", "pieces", 0),
        face("int", "piece", 2, INDEX),
        face("int", "loss", 0),
        face("int", "cut", 0, TURN, MEANING),
        face("void", "bed", 2, TURN, RANGE),
        face("int", "at", 1, INDEX),
        face("int", "bundle", 2, INDEX, RANGE, MEANING),
        face("int", "cutAt", 2, INDEX),
        face("int", "blade", 3, INDEX, RANGE),
        face("int", "sum", 1, INDEX),
        face("int", "side", 1, INDEX)));

    public static void main(String[] args) {
        Class<?> type = CutShears.class;
        Due.holds("public and final", type.getModifiers() == (Modifier.PUBLIC | Modifier.FINAL));
        Due.holds("no package", type.getPackageName().isEmpty());
        constructors(type);
        methods(type);
        fields(type);
        nested(type);
        Due.end();
    }

    private static String face(String answer, String name, int ints, String... thrown) {
        return answer + " " + name + "/" + ints + " " + Arrays.toString(thrown);
    }

    private static String faceOf(Method m) {
        int ints = 0;
        for (Class<?> parameter : m.getParameterTypes()) {
            ints += parameter == int.class ? 1 : 100;
        }
        Class<?>[] types = m.getExceptionTypes();
        String[] thrown = new String[types.length];
        for (int i = 0; i < types.length; i++) {
            thrown[i] = types[i].getSimpleName();
        }
        return face(m.getReturnType().getSimpleName(), m.getName(), ints, thrown);
    }

    private static void constructors(Class<?> type) {
        Constructor<?>[] made = type.getDeclaredConstructors();
        Due.is("constructors", made.length, 1);
        Due.holds("a public one", made[0].getModifiers() == Modifier.PUBLIC);
        Due.is("its parameters", made[0].getParameterCount(), 0);
    }

    private static void methods(Class<?> type) {
        Set<String> open = new TreeSet<>();
        Set<String> names = new TreeSet<>();
        for (Method m : type.getDeclaredMethods()) {
            if (!Modifier.isPrivate(m.getModifiers())) {
                Due.is("modifiers of " + m.getName(), m.getModifiers(), Modifier.PUBLIC);
                open.add(faceOf(m));
                names.add(m.getName());
            }
        }
        Due.holds("the face " + open + " is " + DUE, open.equals(DUE));
        privateNames(type, names);
        for (Class<?> inside : type.getDeclaredClasses()) {
            privateNames(inside, names);
        }
    }

    private static void privateNames(Class<?> type, Set<String> taken) {
        for (Method m : type.getDeclaredMethods()) {
            boolean clash = Modifier.isPrivate(m.getModifiers()) && taken.contains(m.getName());
            Due.holds("a name of its own for " + m.getName() + " of " + type.getName(), !clash);
        }
    }

    private static void fields(Class<?> type) {
        for (Field f : type.getDeclaredFields()) {
            Due.holds(f.getName() + " is private", Modifier.isPrivate(f.getModifiers()));
            boolean fixed = !Modifier.isStatic(f.getModifiers()) || Modifier.isFinal(f.getModifiers());
            Due.holds(f.getName() + " is no static state", fixed);
        }
    }

    private static void nested(Class<?> type) {
        for (Class<?> inside : type.getDeclaredClasses()) {
            int modifiers = inside.getModifiers();
            Due.holds(inside.getName() + " is static", Modifier.isStatic(modifiers));
            boolean open = Modifier.isPublic(modifiers) || Modifier.isProtected(modifiers);
            Due.holds(inside.getName() + " is not open", !open);
        }
    }
}

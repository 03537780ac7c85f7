import java.lang.reflect.Constructor;
import java.lang.reflect.Field;
import java.lang.reflect.Method;
import java.lang.reflect.Modifier;
import java.util.ArrayList;
import java.util.Arrays;
import java.util.List;
import java.util.TreeSet;

/** The face is the document's, and nothing beside it can be reached from outside. */
public final class FaceTest {
    private static final String INDEX = " IndexOutOfBoundsException";
    private static final String ARGUMENT = " IllegalArgumentException";
    private static final String STATE = " IllegalStateException";
    private static final String ROOM = " UnsupportedOperationException";

    private static final List<String> DUE = List.of(
        "int word()" + ROOM,
        "int truth()" + ROOM,
        "int apply(int int int)" + INDEX + ARGUMENT + ROOM,
        "int equal(int int)" + INDEX + ARGUMENT + ROOM,
        "int not(int)" + INDEX + ARGUMENT + ROOM,
        "int both(int int)" + INDEX + ARGUMENT + ROOM,
        "int choice(int int int)" + INDEX + ARGUMENT + ROOM,
        "boolean next(int int)" + INDEX + ARGUMENT,
        "boolean plain(int int)" + INDEX + ARGUMENT,
        "int invariant(int)" + INDEX + ARGUMENT + STATE,
        "int run(int)" + ARGUMENT,
        "int kept(int)" + INDEX,
        "int witness(int)" + STATE + INDEX,
        "int differs()" + STATE,
        "int node(int int)" + INDEX,
        "int count(int)");

    private static String told(Method m) {
        List<String> parameters = new ArrayList<>();
        for (Class<?> c : m.getParameterTypes()) parameters.add(c.getSimpleName());
        StringBuilder s = new StringBuilder();
        s.append(m.getReturnType().getSimpleName()).append(' ').append(m.getName());
        s.append('(').append(String.join(" ", parameters)).append(')');
        for (Class<?> c : m.getExceptionTypes()) s.append(' ').append(c.getSimpleName());
        return s.toString();
    }

    public static void main(String[] args) {
        List<String> wrong = new ArrayList<>();
        Class<?> face = FlushProofs.class;
        if (!Modifier.isPublic(face.getModifiers()) || !Modifier.isFinal(face.getModifiers())) wrong.add("the class");
        if (!face.getPackageName().isEmpty()) wrong.add("the package " + face.getPackageName());
        if (face.getSuperclass() != Object.class || face.getInterfaces().length > 0) wrong.add("what the class is of");
        TreeSet<String> publics = new TreeSet<>();
        TreeSet<String> names = new TreeSet<>();
        for (Method m : face.getDeclaredMethods()) {
            if (!Modifier.isPrivate(m.getModifiers())) {
                publics.add(told(m));
                names.add(m.getName());
            }
        }
        if (!publics.equals(new TreeSet<>(DUE))) wrong.add("methods: " + publics);
        for (Method m : face.getDeclaredMethods()) {
            if (Modifier.isPrivate(m.getModifiers()) && names.contains(m.getName())) wrong.add("private " + m.getName());
        }
        Constructor<?>[] made = face.getDeclaredConstructors();
        if (made.length != 1 || made[0].getParameterCount() != 0 || !Modifier.isPublic(made[0].getModifiers())) {
            wrong.add("constructors: " + Arrays.toString(made));
        }
        boolean found = false;
        for (Field f : face.getDeclaredFields()) {
            boolean none = f.getName().equals("NONE");
            if (!none && !Modifier.isPrivate(f.getModifiers())) wrong.add("field " + f.getName());
            if (none && !(Modifier.toString(f.getModifiers()) + " " + f.getType()).equals("public static final int")) {
                wrong.add("NONE");
            }
            found |= none;
            if (Modifier.isStatic(f.getModifiers()) && !Modifier.isFinal(f.getModifiers())) wrong.add(f.getName());
        }
        if (!found) wrong.add("no NONE");
        for (Class<?> c : face.getDeclaredClasses()) {
            if (Modifier.isPublic(c.getModifiers()) || !Modifier.isStatic(c.getModifiers())) wrong.add(c.getName());
        }
        for (String w : wrong) System.out.println("not as due: " + w);
        if (!wrong.isEmpty()) System.exit(1);
        System.out.println("the face is as due");
    }
}

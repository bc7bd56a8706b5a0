import java.lang.reflect.Constructor;
import java.lang.reflect.Field;
import java.lang.reflect.Method;
import java.lang.reflect.Modifier;
import java.util.ArrayList;
import java.util.List;
import java.util.TreeSet;

/** The face of the class is the document's, and nothing more is seen of it. */
public final class FaceTest {
    private static final String INDEX = " IndexOutOfBoundsException";
    private static final String ARGUMENT = " IllegalArgumentException";
    private static final String STATE = " IllegalStateException";

    public static void main(String[] args) {
        Check.isTrue("the class is public and final",
                Modifier.isPublic(BlossomTours.class.getModifiers())
                && Modifier.isFinal(BlossomTours.class.getModifiers()));
        facesAreEqual();
        nothingElseIsSeen();
        Check.end();
    }

    private static TreeSet<String> documentsFace() {
        return new TreeSet<>(List.of(
                "int valley(int,int,int)" + ARGUMENT + STATE,
                "int road(int,int,int)" + INDEX + ARGUMENT + STATE,
                "int setHeat(int,int)" + INDEX + ARGUMENT,
                "int bloom(int,int)" + INDEX + ARGUMENT,
                "int way(int,int)" + INDEX,
                "int tour(int)" + ARGUMENT + STATE,
                "int add(int,int)" + INDEX + STATE,
                "int cut(int)" + INDEX + STATE,
                "int told(int,int)" + INDEX,
                "int about(int,int)" + INDEX,
                "int count(int)" + INDEX,
                "int pass(int)" + ARGUMENT,
                "int joy(int,int)" + INDEX + ARGUMENT,
                "int best(int)" + INDEX,
                "int advise(int)" + INDEX,
                "int foresee(int,int)" + ARGUMENT + INDEX,
                "double mean()",
                "long digest()"));
    }

    private static void facesAreEqual() {
        TreeSet<String> found = new TreeSet<>();
        TreeSet<String> names = new TreeSet<>();
        for (Method m : BlossomTours.class.getDeclaredMethods()) {
            if (Modifier.isPublic(m.getModifiers())) {
                found.add(written(m));
                names.add(m.getName());
            }
        }
        Check.isTrue("the face is " + found + ", due is " + documentsFace(), found.equals(documentsFace()));
        for (Method m : BlossomTours.class.getDeclaredMethods()) {
            Check.isTrue("a private method bears a public name: " + m,
                    Modifier.isPublic(m.getModifiers()) || !names.contains(m.getName()));
        }
    }

    private static String written(Method m) {
        List<String> parameters = new ArrayList<>();
        for (Class<?> type : m.getParameterTypes()) {
            parameters.add(type.getSimpleName());
        }
        StringBuilder text = new StringBuilder();
        text.append(m.getReturnType().getSimpleName()).append(' ').append(m.getName());
        text.append('(').append(String.join(",", parameters)).append(')');
        for (Class<?> type : m.getExceptionTypes()) {
            text.append(' ').append(type.getSimpleName());
        }
        return text.toString();
    }

    private static void nothingElseIsSeen() {
        for (Method m : BlossomTours.class.getDeclaredMethods()) {
            int bits = m.getModifiers();
            Check.isTrue("seen from outside: " + m,
                    Modifier.isPublic(bits) || Modifier.isPrivate(bits) || m.isSynthetic());
        }
        for (Field f : BlossomTours.class.getDeclaredFields()) {
            Check.isTrue("seen from outside: " + f, Modifier.isPrivate(f.getModifiers()));
            Check.isTrue("not final: " + f,
                    !Modifier.isStatic(f.getModifiers()) || Modifier.isFinal(f.getModifiers()));
        }
        Constructor<?>[] constructors = BlossomTours.class.getDeclaredConstructors();
        Check.equal("constructors", constructors.length, 1);
        Check.isTrue("the constructor is public and without parameters",
                Modifier.isPublic(constructors[0].getModifiers()) && constructors[0].getParameterCount() == 0);
    }
}

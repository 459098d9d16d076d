import java.lang.reflect.Constructor;
import java.lang.reflect.Field;
import java.lang.reflect.Method;
import java.lang.reflect.Modifier;
import java.util.Arrays;
import java.util.TreeSet;
import java.util.stream.Collectors;
import java.util.stream.Stream;

/** The public face of the document, and that nothing else is to be seen (LANGUAGE.md, rule 1). */
public final class FaceTest {
    private static final String INDEX = " IndexOutOfBoundsException";
    private static final String STATE = " IllegalStateException";
    private static final String ARGUMENT = " IllegalArgumentException";
    private static final String[] FACE = {
        "int atom(int, int, int, int)" + STATE + ARGUMENT,
        "int both(int, int)" + INDEX + STATE + ARGUMENT,
        "int either(int, int)" + INDEX + STATE + ARGUMENT,
        "int not(int)" + INDEX + STATE,
        "int some(int, int)" + INDEX + STATE + ARGUMENT,
        "int every(int, int)" + INDEX + STATE + ARGUMENT,
        "int known(int, int)" + INDEX + ARGUMENT,
        "boolean holds(int, int, int)" + INDEX + ARGUMENT,
        "boolean decide(int)" + INDEX + STATE,
        "int pieces(int)" + INDEX + STATE,
        "long end(int, int, int, int)" + INDEX + STATE + ARGUMENT,
        "boolean alike(int, int)" + INDEX,
        "int count()",
    };

    public static void main(String[] args) {
        Class<?> face = QuantifierOut.class;
        Checks.due("public final", true, () -> face.getModifiers() == (Modifier.PUBLIC | Modifier.FINAL));
        TreeSet<String> names = new TreeSet<>();
        TreeSet<String> shown = new TreeSet<>();
        for (Method method : face.getDeclaredMethods()) {
            if (!Modifier.isPrivate(method.getModifiers()) && !method.isSynthetic()) {
                shown.add(describe(method));
                names.add(method.getName());
            }
        }
        Checks.due("methods", new TreeSet<>(Arrays.asList(FACE)), () -> shown);
        for (Method method : face.getDeclaredMethods()) {
            if (Modifier.isPrivate(method.getModifiers())) {
                Checks.due("private " + method.getName() + " bears a public name", false,
                    () -> names.contains(method.getName()));
            }
        }
        for (Field field : face.getDeclaredFields()) {
            Checks.due("field " + field.getName() + " private", true,
                () -> Modifier.isPrivate(field.getModifiers()));
        }
        Constructor<?>[] makers = face.getDeclaredConstructors();
        Checks.due("constructors", "1 1 0", () ->
            makers.length + " " + makers[0].getModifiers() + " " + makers[0].getParameterCount());
        Checks.finish();
    }

    private static String describe(Method method) {
        String parameters = Stream.of(method.getParameterTypes()).map(Class::getName).collect(Collectors.joining(", "));
        String thrown = Stream.of(method.getExceptionTypes()).map(t -> " " + t.getSimpleName())
            .collect(Collectors.joining());
        return method.getReturnType().getName() + " " + method.getName() + "(" + parameters + ")" + thrown;
    }
}

import java.lang.reflect.Constructor;
import java.lang.reflect.Field;
import java.lang.reflect.Method;
import java.lang.reflect.Modifier;
import java.util.Map;
import java.util.Set;
import java.util.TreeSet;

/** The public face: its constants, its constructor, its methods, and no other member. */
public final class FaceTest {
    private static final Set<String> METHODS = Set.of(
            "int feed(int)", "int put(int, int)", "int cut(int)", "int load()",
            "void kind(int, int, int, int)", "int forget()", "void choose(int, int)",
            "void feature(int, boolean)", "int add(int, int, int)", "int clear()",
            "int set(boolean)", "int place(int, int)");

    /** What a call may throw, in the order in which the first one wins. */
    private static final Map<String, String> THROWS = Map.of(
            "put", "IndexOutOfBoundsException, IllegalArgumentException",
            "cut", "IllegalArgumentException",
            "kind", "IllegalArgumentException, IllegalStateException",
            "feature", "IllegalStateException",
            "add", "IllegalArgumentException, IllegalStateException",
            "set", "IllegalStateException",
            "place", "IndexOutOfBoundsException");

    public static void main(String[] args) {
        Check check = new Check("FaceTest");
        constants(check);
        Set<String> open = new TreeSet<>();
        Set<String> openNames = new TreeSet<>();
        for (Method method : GlyphPositions.class.getDeclaredMethods()) {
            if (!Modifier.isPrivate(method.getModifiers())) {
                open.add(described(method));
                openNames.add(method.getName());
                String thrown = names(method.getExceptionTypes());
                check.due(method.getName() + " throws " + thrown,
                        thrown.equals(THROWS.getOrDefault(method.getName(), "")) ? 1 : 0, 1);
            }
        }
        check.due("methods of the face: " + open, open.equals(METHODS) ? 1 : 0, 1);
        for (Method method : GlyphPositions.class.getDeclaredMethods()) {
            if (Modifier.isPrivate(method.getModifiers())) {
                check.due("a private method has a face's name: " + method,
                        openNames.contains(method.getName()) ? 1 : 0, 0);
            }
        }
        Constructor<?>[] constructors = GlyphPositions.class.getDeclaredConstructors();
        check.due("constructors", constructors.length, 1);
        check.due("its parameters", constructors[0].getParameterCount(), 0);
        check.due("final class", Modifier.isFinal(GlyphPositions.class.getModifiers()) ? 1 : 0, 1);
        check.end();
    }

    private static void constants(Check check) {
        check.due("NONE", GlyphPositions.NONE, -1);
        check.due("HEAD", GlyphPositions.HEAD, -1);
        check.due("SCRIPTS", GlyphPositions.SCRIPTS, -2);
        check.due("FEATURES", GlyphPositions.FEATURES, -3);
        check.due("LOOKUPS", GlyphPositions.LOOKUPS, -4);
        int open = 0;
        for (Field field : GlyphPositions.class.getDeclaredFields()) {
            if (!Modifier.isPrivate(field.getModifiers())) {
                open++;
            }
        }
        check.due("fields that are not private", open, 5);
    }

    private static String described(Method method) {
        StringBuilder text = new StringBuilder();
        text.append(method.getReturnType().getName()).append(' ').append(method.getName());
        return text.append('(').append(names(method.getParameterTypes())).append(')').toString();
    }

    private static String names(Class<?>[] types) {
        StringBuilder text = new StringBuilder();
        String between = "";
        for (Class<?> type : types) {
            text.append(between).append(type.getSimpleName());
            between = ", ";
        }
        return text.toString();
    }
}

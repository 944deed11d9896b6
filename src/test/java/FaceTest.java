import java.lang.reflect.Constructor;
import java.lang.reflect.Field;
import java.lang.reflect.Method;
import java.lang.reflect.Modifier;
import java.util.ArrayList;
import java.util.Arrays;
import java.util.List;
import java.util.TreeSet;

/** The public face is the document's, and nothing else of the class can be seen from outside. */
public final class FaceTest {
    private static final String[] FACE = {
        "boolean isTaken(int, int) IllegalArgumentException",
        "boolean isTold(int) IndexOutOfBoundsException",
        "int byteOf(int, int) IndexOutOfBoundsException",
        "int give(int, int) IllegalArgumentException IllegalStateException",
        "int giveFile(int, boolean) IllegalArgumentException IllegalStateException",
        "int group(int, int) IllegalArgumentException",
        "int lay(int, int) IllegalArgumentException",
        "int reserve(int) IllegalArgumentException",
        "int settle()",
        "int take(int, int, boolean) IllegalArgumentException IllegalStateException",
        "int takeFile(int, boolean) IllegalArgumentException IllegalStateException",
        "int taken()",
    };

    public static void main(String[] args) {
        Due due = new Due();
        Class<?> face = GroupBitmaps.class;
        due.is("modifiers", "public final", () -> Modifier.toString(face.getModifiers()));
        due.is("methods", Arrays.asList(FACE).toString(), () -> seenMethods(face).toString());
        due.is("constructors", "[public GroupBitmaps()]", () -> seenConstructors(face).toString());
        due.is("fields", "[]", () -> seenFields(face).toString());
        due.end();
    }

    private static TreeSet<String> seenMethods(Class<?> face) {
        TreeSet<String> seen = new TreeSet<>();
        for (Method method : face.getDeclaredMethods()) {
            if (!Modifier.isPrivate(method.getModifiers())) {
                seen.add(text(method));
            }
        }
        return seen;
    }

    private static String text(Method method) {
        List<String> parameters = new ArrayList<>();
        for (Class<?> type : method.getParameterTypes()) {
            parameters.add(type.getSimpleName());
        }
        StringBuilder text = new StringBuilder();
        text.append(method.getReturnType().getSimpleName()).append(' ').append(method.getName());
        text.append('(').append(String.join(", ", parameters)).append(')');
        for (Class<?> type : method.getExceptionTypes()) {
            text.append(' ').append(type.getSimpleName());
        }
        return text.toString();
    }

    private static List<String> seenConstructors(Class<?> face) {
        List<String> seen = new ArrayList<>();
        for (Constructor<?> constructor : face.getDeclaredConstructors()) {
            if (!Modifier.isPrivate(constructor.getModifiers())) {
                seen.add(constructor.toString());
            }
        }
        return seen;
    }

    private static List<String> seenFields(Class<?> face) {
        List<String> seen = new ArrayList<>();
        for (Field field : face.getDeclaredFields()) {
            if (!Modifier.isPrivate(field.getModifiers())) {
                seen.add(field.getName());
            }
        }
        return seen;
    }
}

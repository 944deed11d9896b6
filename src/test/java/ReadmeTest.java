import java.io.IOException;
import java.lang.reflect.Method;
import java.lang.reflect.Modifier;
import java.nio.file.Files;
import java.nio.file.Path;
import java.util.List;

/** README.md says how to use the class: its example answers as it says, and it tells of each call. */
public final class ReadmeTest {
    public static void main(String[] args) throws IOException {
        Due due = new Due();
        example(due);
        // .ci/run runs each test in the project's own folder.
        eachCall(due, Files.readAllLines(Path.of("README.md")));
        due.end();
    }

    private static void example(Due due) {
        GroupBitmaps volume = new GroupBitmaps();
        due.is("lay(2, 100)", 332, () -> volume.lay(2, 100));
        due.is("reserve(10)", 322, () -> volume.reserve(10));
        due.is("take(300, 8, false)", 300, () -> volume.take(300, 8, false));
        due.is("taken()", 8, volume::taken);
        due.is("takeFile(2, true)", 11, () -> volume.takeFile(2, true));
        due.is("giveFile(11, true)", 246, () -> volume.giveFile(11, true));
        due.is("give(300, 8)", 332, () -> volume.give(300, 8));
        due.is("settle()", 9, volume::settle);
    }

    private static void eachCall(Due due, List<String> readme) {
        due.is("a row for the constructor", true, () -> hasRow(readme, "| `new GroupBitmaps("));
        for (Method method : GroupBitmaps.class.getDeclaredMethods()) {
            if (Modifier.isPublic(method.getModifiers())) {
                due.is("a row for " + method.getName(), true, () -> hasRow(readme, "| `" + method.getName() + "("));
            }
        }
    }

    private static boolean hasRow(List<String> readme, String start) {
        return readme.stream().anyMatch(line -> line.startsWith(start));
    }
}

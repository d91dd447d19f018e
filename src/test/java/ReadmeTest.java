import java.io.File;
import java.io.IOException;
import java.lang.reflect.Method;
import java.lang.reflect.Modifier;
import java.nio.file.Files;
import java.nio.file.Path;
import java.util.Arrays;
import java.util.Set;
import java.util.TreeSet;
import java.util.regex.Matcher;
import java.util.regex.Pattern;

/** README.md says what is so: its calls answer as it tells, and it names the tests that there are. */
public final class ReadmeTest extends ShelfTest {
    private static final Pattern CALL = Pattern.compile("shelf\\.(\\w+)\\(([^)]*)\\);\\s*// .*: (-?\\d+)");
    private static final Pattern LISTED = Pattern.compile("`(\\w+Test)`");

    public static void main(String[] args) throws IOException, ReflectiveOperationException {
        String readme = Files.readString(Path.of("README.md"));
        Set<String> called = calls(readme);
        dueNames("the calls that are shown", called, face());
        dueNames("the tests that are listed", listed(readme), tests());
        end("README.md says what is so");
    }

    /** Makes every call of the example, on one object: their names. */
    private static Set<String> calls(String readme) throws ReflectiveOperationException {
        Set<String> called = new TreeSet<>();
        RopeShelf shelf = new RopeShelf();
        for (String line : readme.split("\n")) {
            Matcher call = CALL.matcher(line);
            if (call.matches()) {
                called.add(call.group(1));
                due(line, made(shelf, call.group(1), numbers(call.group(2))), Integer.parseInt(call.group(3)));
            } else {
                due("a call that is not told as the others: " + line, line.startsWith("shelf.") ? 1 : 0, 0);
            }
        }
        return called;
    }

    private static int[] numbers(String list) {
        return list.isBlank() ? new int[0]
                : Arrays.stream(list.split(",")).map(String::trim).mapToInt(Integer::parseInt).toArray();
    }

    private static int made(RopeShelf shelf, String name, int[] numbers) throws ReflectiveOperationException {
        Class<?>[] types = new Class<?>[numbers.length];
        Arrays.fill(types, int.class);
        Object[] values = Arrays.stream(numbers).boxed().toArray();
        return (int) RopeShelf.class.getMethod(name, types).invoke(shelf, values);
    }

    private static Set<String> face() {
        Set<String> names = new TreeSet<>();
        for (Method method : RopeShelf.class.getDeclaredMethods()) {
            if (Modifier.isPublic(method.getModifiers())) {
                names.add(method.getName());
            }
        }
        return names;
    }

    private static Set<String> listed(String readme) {
        Set<String> names = new TreeSet<>();
        for (String line : readme.split("\n")) {
            Matcher name = LISTED.matcher(line);
            while (line.startsWith("- ") && name.find()) {
                names.add(name.group(1));
            }
        }
        return names;
    }

    private static Set<String> tests() {
        Set<String> names = new TreeSet<>();
        String[] files = new File("src/test/java").list();
        for (String file : files == null ? new String[0] : files) {
            names.add(file.replace(".java", ""));
        }
        return names;
    }

    private static void dueNames(String what, Set<String> got, Set<String> want) {
        due(what + ": " + got + ", there are: " + want, got.equals(want) ? 1 : 0, 1);
    }
}

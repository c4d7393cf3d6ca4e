import java.io.IOException;
import java.lang.reflect.InvocationTargetException;
import java.lang.reflect.Method;
import java.lang.reflect.Modifier;
import java.nio.file.DirectoryStream;
import java.nio.file.Files;
import java.nio.file.Path;
import java.util.List;
import java.util.regex.Matcher;
import java.util.regex.Pattern;

/** What README.md tells of the class and of its tests holds; it is run from the project's directory. */
public final class ReadmeTest {
    private static final Due DUE = new Due();
    private static final Path README = Path.of("README.md");
    /** A call, its arguments, and behind it the answer, which ends where the line ends or a ':' stands. */
    private static final Pattern SHOWN = Pattern.compile("journal\\.(\\w+)\\((.*)\\); +// ([^:]+).*");

    public static void main(String[] args) throws IOException, ReflectiveOperationException {
        List<String> lines = Files.readAllLines(README);
        aboutShownCalls(lines);
        aboutEachCall(lines);
        aboutEachTest(lines);
        DUE.end();
    }

    private static void aboutShownCalls(List<String> lines) throws ReflectiveOperationException {
        DUE.about("README.md: behind each call stands what it answers");
        BlockJournal journal = new BlockJournal();
        for (String line : lines) {
            if (line.startsWith("journal.")) {
                Matcher shown = SHOWN.matcher(line);
                DUE.compare(line + " can be read", true, shown.matches());
                Method method = methodOf(shown.group(1));
                if (method.getReturnType() == void.class) {
                    method.invoke(journal, arguments(method, shown.group(2)));
                } else {
                    DUE.compare(line, shown.group(3), answer(journal, method, shown.group(2)));
                }
            }
        }
    }

    private static void aboutEachCall(List<String> lines) {
        DUE.about("README.md says how to use the class: every call is named, with what it throws");
        for (Method method : BlockJournal.class.getDeclaredMethods()) {
            if (Modifier.isPublic(method.getModifiers())) {
                String row = rowOf(lines, "| `" + method.getName() + "(");
                DUE.compare(method.getName() + " has a row", false, row.isEmpty());
                for (Class<?> thrown : method.getExceptionTypes()) {
                    DUE.compare(row + " names " + thrown, true, row.contains(thrown.getSimpleName()));
                }
            }
        }
        for (int what = 0; what <= 6; what++) {
            DUE.compare("look " + what + " has a row", false, rowOf(lines, "| " + what + " | ").isEmpty());
        }
    }

    private static void aboutEachTest(List<String> lines) throws IOException {
        DUE.about("README.md says how to run the tests: every test is named");
        String text = String.join("\n", lines);
        DUE.compare(".ci/run is told", true, lines.contains("    .ci/run"));
        try (DirectoryStream<Path> tests = Files.newDirectoryStream(Path.of("src/test/java"), "*Test.java")) {
            for (Path test : tests) {
                String name = test.getFileName().toString().replace(".java", "");
                DUE.compare(name + " is named", true, text.contains("`" + name + "`"));
            }
        }
    }

    private static String rowOf(List<String> lines, String start) {
        for (String line : lines) {
            if (line.startsWith(start)) {
                return line;
            }
        }
        return "";
    }

    private static Method methodOf(String name) throws NoSuchMethodException {
        for (Method method : BlockJournal.class.getMethods()) {
            if (method.getName().equals(name)) {
                return method;
            }
        }
        throw new NoSuchMethodException(name);
    }

    private static String answer(BlockJournal journal, Method method, String arguments)
            throws IllegalAccessException {
        try {
            return method.invoke(journal, arguments(method, arguments)).toString();
        } catch (InvocationTargetException thrown) {
            return thrown.getCause().getClass().getSimpleName();
        }
    }

    private static Object[] arguments(Method method, String text) {
        Class<?>[] types = method.getParameterTypes();
        Object[] values = new Object[types.length];
        String[] words = text.split(", ");
        for (int i = 0; i < types.length; i++) {
            values[i] = types[i] == long.class ? (Object) Long.decode(words[i]) : (Object) Integer.decode(words[i]);
        }
        return values;
    }
}

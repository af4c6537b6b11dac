import java.io.IOException;
import java.lang.reflect.InvocationTargetException;
import java.lang.reflect.Method;
import java.lang.reflect.Modifier;
import java.nio.file.Files;
import java.nio.file.Path;
import java.util.Set;
import java.util.TreeSet;
import java.util.regex.Matcher;
import java.util.regex.Pattern;

/** README.md: its examples answer as it says, and it tells every call. */
public final class ReadmeTest {
    private static final Check CHECK = new Check();
    private static final Path PAGE = Path.of("README.md");
    private static final Pattern EXAMPLE = Pattern.compile("school\\.(\\w+)\\((.*?)\\); +// (-?\\w+): .*");
    private static final Pattern ROW = Pattern.compile("\\| `(\\w+)\\((.*?)\\)` \\| .*");

    public static void main(String[] args) throws IOException {
        examples();
        tableOfCalls();
        howToRunTheTests();
        CHECK.end();
    }

    private static Method method(String name) {
        for (Method method : TurnSchool.class.getDeclaredMethods()) {
            if (Modifier.isPublic(method.getModifiers()) && method.getName().equals(name)) {
                return method;
            }
        }
        throw new IllegalStateException("no such call: " + name);
    }

    private static Object[] valuesOf(String words) {
        if (words.isEmpty()) {
            return new Object[0];
        }
        String[] parts = words.split(", *");
        Object[] values = new Object[parts.length];
        for (int k = 0; k < parts.length; k++) {
            boolean truth = parts[k].equals("true") || parts[k].equals("false");
            values[k] = truth ? (Object) Boolean.valueOf(parts[k]) : Integer.valueOf(parts[k]);
        }
        return values;
    }

    private static String answerOf(TurnSchool school, String name, String words) {
        try {
            return method(name).invoke(school, valuesOf(words)).toString();
        } catch (InvocationTargetException thrown) {
            return thrown.getCause().getClass().getSimpleName();
        } catch (IllegalAccessException closed) {
            throw new IllegalStateException("not of the face: " + name, closed);
        }
    }

    /** All examples are of one object, as the page has it. */
    private static void examples() throws IOException {
        TurnSchool school = null;
        int examples = 0;
        for (String line : Files.readAllLines(PAGE)) {
            Matcher example = EXAMPLE.matcher(line);
            if (line.equals("TurnSchool school = new TurnSchool();")) {
                school = new TurnSchool();
            } else if (example.matches()) {
                examples++;
                CHECK.same(line, answerOf(school, example.group(1), example.group(2)), example.group(3));
            } else if (line.startsWith("school.")) {
                CHECK.same(line, "no answer is told", "an answer");
            }
        }
        CHECK.due("examples", examples, 35);
    }

    private static void tableOfCalls() throws IOException {
        Set<String> told = new TreeSet<>();
        for (String line : Files.readAllLines(PAGE)) {
            Matcher row = ROW.matcher(line);
            if (row.matches()) {
                int numbers = row.group(2).isEmpty() ? 0 : row.group(2).split(", *").length;
                CHECK.due("parameters of " + row.group(1), numbers, method(row.group(1)).getParameterCount());
                told.add(row.group(1));
            }
        }
        Set<String> face = new TreeSet<>();
        for (Method method : TurnSchool.class.getDeclaredMethods()) {
            if (Modifier.isPublic(method.getModifiers())) {
                face.add(method.getName());
            }
        }
        CHECK.same("the calls that the page tells", told.toString(), face.toString());
    }

    private static void howToRunTheTests() throws IOException {
        boolean told = Files.readAllLines(PAGE).contains(".ci/run");
        CHECK.due("the command that runs the tests is told", told ? 1 : 0, 1);
        CHECK.due(".ci/run can be run", Files.isExecutable(Path.of(".ci/run")) ? 1 : 0, 1);
    }
}

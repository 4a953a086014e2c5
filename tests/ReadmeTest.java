import java.io.File;
import java.io.IOException;
import java.lang.reflect.Method;
import java.nio.file.Files;
import java.nio.file.Path;
import java.util.List;
import java.util.regex.Matcher;
import java.util.regex.Pattern;

/** README.md: its example answers what stands behind each call, and nothing that a reader needs is left out. */
public final class ReadmeTest {
    private static final Path README = Path.of("README.md");
    private static final Path DOCUMENT = Path.of("../shared/DOC.md");
    private static final Pattern CALL = Pattern.compile("hall\\.(\\w+)\\((.*?)\\); +// ([-\\w]+).*");
    private static final Pattern PROMISED = Pattern.compile("    public ([\\w ]+\\(.*\\));");
    private static final Due due = new Due();

    public static void main(String[] args) throws ReflectiveOperationException, IOException {
        theExampleAnswersAsItSays();
        eachMethodOfTheFaceIsNamed();
        eachTestIsNamed();
        due.end();
    }

    private static void theExampleAnswersAsItSays() throws ReflectiveOperationException, IOException {
        ClockAuctions hall = new ClockAuctions();
        int calls = 0;
        for (String line : Files.readAllLines(README)) {
            if (line.startsWith("hall.")) {
                Matcher call = CALL.matcher(line);
                due.holds("'" + line + "' tells its answer", call.matches());
                if (call.matches()) {
                    Object answer = answerOf(hall, call.group(1), call.group(2));
                    String wanted = call.group(3);
                    due.holds("'" + line + "' (" + answer + ")", wanted.equals(String.valueOf(answer)));
                    calls++;
                }
            }
        }
        due.holds("README.md has an example", calls > 20);
    }

    private static Object answerOf(ClockAuctions hall, String name, String text) throws ReflectiveOperationException {
        String[] given = text.isEmpty() ? new String[0] : text.split(", ");
        for (Method method : ClockAuctions.class.getMethods()) {
            if (method.getName().equals(name) && method.getParameterCount() == given.length) {
                return method.invoke(hall, argumentsOf(method, given));
            }
        }
        return "no such method";
    }

    private static Object[] argumentsOf(Method method, String[] given) {
        Object[] arguments = new Object[given.length];
        for (int i = 0; i < given.length; i++) {
            Class<?> type = method.getParameterTypes()[i];
            if (type == boolean.class) {
                arguments[i] = Boolean.valueOf(given[i]);
            } else if (type == int.class) {
                arguments[i] = Integer.valueOf(given[i]);
            } else {
                arguments[i] = Long.valueOf(given[i]);
            }
        }
        return arguments;
    }

    private static void eachMethodOfTheFaceIsNamed() throws IOException {
        String readme = Files.readString(README);
        int methods = 0;
        for (String line : Files.readAllLines(DOCUMENT)) {
            Matcher promised = PROMISED.matcher(line);
            if (promised.matches()) {
                due.holds("README.md names " + promised.group(1), readme.contains("- `" + promised.group(1) + "`: "));
                methods++;
            }
        }
        due.is("methods and the constructor in the document's face", methods, 29);
    }

    private static void eachTestIsNamed() throws IOException {
        String readme = Files.readString(README);
        String[] names = new File("tests").list();
        due.holds("there are tests", names != null);
        for (String name : names == null ? List.<String>of() : List.of(names)) {
            if (name.endsWith("Test.java")) {
                String test = name.substring(0, name.indexOf('.'));
                due.holds("README.md names " + test, readme.contains("- `" + test + "`: "));
            }
        }
    }
}

import java.io.IOException;
import java.lang.reflect.Executable;
import java.lang.reflect.InvocationTargetException;
import java.lang.reflect.Method;
import java.lang.reflect.Modifier;
import java.nio.file.Files;
import java.nio.file.Path;
import java.util.ArrayList;
import java.util.Arrays;
import java.util.List;
import java.util.Set;
import java.util.TreeSet;
import java.util.regex.Matcher;
import java.util.regex.Pattern;
import java.util.stream.Collectors;
import java.util.stream.Stream;

/** What README.md says. It is the last test that .ci/run runs, as it looks at the commands that were run till then. */
public final class ReadmeTest extends Check {
    private static final Path README = Path.of("README.md");
    private static final Path SCRIPT = Path.of(".ci/run");
    private static final Path COMMANDS_RUN = Path.of("build/commands");
    private static final String OWN_TESTS = "src/test/java";
    private static final String SHARED_TESTS = "../shared/tests";

    // The test that README.md shows the commands of, in the place of any other.
    private static final String SHOWN = "TermsTest";
    private static final String SHOWN_FILE = OWN_TESTS + "/" + SHOWN + ".java";

    private static final Pattern CALL = Pattern.compile("book\\.(\\w+)\\((.*)\\); +// (.+)");
    private static final Pattern ROW = Pattern.compile("\\| `(\\w+)\\((.*)\\)` \\| [^|]+ \\|(.*)\\|");
    private static final Pattern NAMED_TEST = Pattern.compile("- `(\\w+)`: .*");

    public static void main(String[] args) {
        run(ReadmeTest.class);
    }

    // ---- how to use the class

    @Says("Use: a run of calls, with the answer of each behind it")
    static void answersOfTheRun() throws IOException {
        List<String> lines = blocks("java");
        due("the first line", lines.get(0), "LeafBook book = new LeafBook(16);");
        LeafBook book = new LeafBook(16);
        Set<String> called = new TreeSet<>();
        for (String line : lines.subList(1, lines.size())) {
            Matcher call = CALL.matcher(line);
            due(line + " is a call with its answer", call.matches(), true);
            if (call.matches()) {
                called.add(call.group(1));
                dueOfLine(line, method(call.group(1)), book, numbers(call.group(2)), call.group(3));
            }
        }
        due("the calls that are shown", called, face().map(Method::getName).collect(Collectors.toCollection(TreeSet::new)));
    }

    private static void dueOfLine(String line, Method method, LeafBook book, List<String> numbers, String comment) {
        String got = String.valueOf(answerOf(method, book, numbers));
        if (method.getReturnType() == void.class) {
            due(line, got, "null");
        } else {
            due(line, got, comment.split(":")[0]);
        }
    }

    /** The answer, or the name of the exception's class. */
    private static Object answerOf(Method method, LeafBook book, List<String> numbers) {
        Class<?>[] types = method.getParameterTypes();
        Object[] arguments = new Object[numbers.size()];
        for (int i = 0; i < arguments.length; i++) {
            long number = Long.parseLong(numbers.get(i));
            if (types[i] == int.class) {
                arguments[i] = (int) number;
            } else {
                arguments[i] = number;
            }
        }
        try {
            return method.invoke(book, arguments);
        } catch (InvocationTargetException e) {
            return e.getCause().getClass().getSimpleName();
        } catch (IllegalAccessException e) {
            return e;
        }
    }

    @Says("Use: every call with what it throws, in the document's order")
    static void rowsOfTheFace() throws IOException {
        Set<String> due = new TreeSet<>();
        face().forEach(method -> due.add(row(method.getName(), method)));
        due.add(row("LeafBook", LeafBook.class.getConstructors()[0]));
        Set<String> got = new TreeSet<>();
        for (String line : Files.readAllLines(README)) {
            Matcher row = ROW.matcher(line);
            if (row.matches()) {
                got.add(row.group(1) + " of " + numbers(row.group(2)).size() + " throws " + row.group(3).strip());
            }
        }
        due("the rows", got, due);
    }

    private static String row(String name, Executable call) {
        String thrown = Arrays.stream(call.getExceptionTypes()).map(ReadmeTest::shortName).collect(Collectors.joining(", "));
        return name + " of " + call.getParameterCount() + " throws " + thrown;
    }

    private static String shortName(Class<?> exception) {
        return exception == STATE ? "state" : exception == INDEX ? "index" : exception == ARGUMENT ? "argument" : "another";
    }

    private static Stream<Method> face() {
        return Arrays.stream(LeafBook.class.getDeclaredMethods()).filter(m -> Modifier.isPublic(m.getModifiers()));
    }

    private static Method method(String name) {
        return face().filter(m -> m.getName().equals(name)).findFirst()
            .orElseThrow(() -> new AssertionError("there is no call " + name));
    }

    private static List<String> numbers(String arguments) {
        return arguments.isEmpty() ? List.of() : List.of(arguments.split(", "));
    }

    // ---- how to run the tests

    @Says("Tests: all tests are run by .ci/run")
    static void theScript() throws IOException {
        due("the first command is .ci/run", blocks("sh").get(0), SCRIPT.toString());
        due(".ci/run can be run", Files.isExecutable(SCRIPT), true);
    }

    @Says("Tests: every command is one that .ci/run has run")
    static void commandsAreRun() throws IOException {
        List<String> run = Files.readAllLines(COMMANDS_RUN);
        List<String> given = blocks("sh");
        for (String command : given.subList(1, given.size())) {
            due(command + " was run", run.contains(command), true);
        }
    }

    @Says("Tests: .ci/run runs these commands for each test, of the project and shared, and no others")
    static void commandsOfEachTest() throws IOException {
        Set<String> due = new TreeSet<>();
        for (String command : blocks("sh")) {
            String ofAny = command.replace(SHOWN_FILE, "%2$s").replace(SHOWN, "%1$s");
            for (String test : files(OWN_TESTS, SHARED_TESTS)) {
                due.add(String.format(ofAny, name(test), test));
            }
        }
        due.remove(SCRIPT.toString());
        due("the commands that were run", new TreeSet<>(Files.readAllLines(COMMANDS_RUN)), due);
    }

    @Says("Tests: the project's own")
    static void ownTestsAreNamed() throws IOException {
        Set<String> named = new TreeSet<>();
        for (String line : Files.readAllLines(README)) {
            Matcher test = NAMED_TEST.matcher(line);
            if (test.matches()) {
                named.add(test.group(1));
            }
        }
        due("the tests that are named", named,
            files(OWN_TESTS).stream().map(ReadmeTest::name).collect(Collectors.toCollection(TreeSet::new)));
    }

    private static List<String> files(String... places) throws IOException {
        List<String> all = new ArrayList<>();
        for (String place : places) {
            try (Stream<Path> files = Files.list(Path.of(place))) {
                files.map(Path::toString).filter(file -> file.endsWith(".java")).forEach(all::add);
            }
        }
        return all;
    }

    private static String name(String test) {
        return Path.of(test).getFileName().toString().replace(".java", "");
    }

    /** The lines of all blocks of code in that language. */
    private static List<String> blocks(String language) throws IOException {
        List<String> all = new ArrayList<>();
        boolean inside = false;
        for (String line : Files.readAllLines(README)) {
            if (line.startsWith("```")) {
                inside = line.equals("```" + language);
            } else if (inside) {
                all.add(line);
            }
        }
        return all;
    }
}

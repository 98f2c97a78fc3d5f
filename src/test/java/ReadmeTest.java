import java.io.IOException;
import java.lang.reflect.Method;
import java.lang.reflect.Modifier;
import java.nio.file.Files;
import java.nio.file.Path;
import java.util.List;
import java.util.Set;
import java.util.TreeSet;
import java.util.regex.Matcher;
import java.util.regex.Pattern;
import java.util.stream.Collectors;
import java.util.stream.Stream;

/** README.md says how to use the class: its calls answer what it says, and it leaves out no call and no test. */
public final class ReadmeTest {
    private static final Path PAGE = Path.of("README.md");
    private static final Path TESTS = Path.of("src/test/java");
    private static final Pattern CALL = Pattern.compile("x\\.(\\w+)\\(([^)]*)\\);\\s*// (-?\\d+)\\b.*");
    private static final Pattern ROW = Pattern.compile("\\| `(\\w+)\\(([^)]*)\\)` \\|.*");
    private static final Pattern REFUSAL = Pattern.compile("\\| `([A-Z]+)` \\| (-\\d) \\|.*");
    private static final Pattern TEST = Pattern.compile("`(\\w+Test)`");

    public static void main(String[] args) {
        Checks.runAll(ReadmeTest.class);
    }

    static void itsCallsAnswerWhatItSays(Checks c) throws IOException, ReflectiveOperationException {
        MeetSets x = null;
        boolean code = false;
        int calls = 0;
        for (String line : Files.readAllLines(PAGE)) {
            if (line.startsWith("```")) code = line.equals("```java");
            if (!code || line.startsWith("```")) continue;
            if (line.equals("MeetSets x = new MeetSets();")) {
                x = new MeetSets();
                continue;
            }
            Matcher m = CALL.matcher(line);
            boolean told = m.matches();
            c.same("a call and its answer: " + line, told, true);
            if (told) {
                c.due(line, answer(x, m.group(1), m.group(2)), Long.parseLong(m.group(3)));
                calls++;
            }
        }
        c.same("there are calls", calls > 0, true);
    }

    static void noCallIsMissing(Checks c) throws IOException {
        Set<String> due = new TreeSet<>();
        for (Method m : MeetSets.class.getDeclaredMethods()) {
            if (Modifier.isPublic(m.getModifiers())) due.add(m.getName() + " of " + m.getParameterCount());
        }
        Set<String> found = new TreeSet<>();
        for (Matcher m : rows(ROW)) found.add(m.group(1) + " of " + numbersIn(m.group(2)));
        c.same("the calls in its table", found, due);
    }

    static void noRefusalIsMissing(Checks c) throws IOException {
        Set<String> found = new TreeSet<>();
        for (Matcher m : rows(REFUSAL)) found.add(m.group(1) + " " + m.group(2));
        Set<String> due = Set.of("NONE " + MeetSets.NONE, "BAD " + MeetSets.BAD, "NO " + MeetSets.NO, "FULL " + MeetSets.FULL);
        c.same("the refusals in its table", found, new TreeSet<>(due));
    }

    /** The tests of the promises are told as the first and the last of them. */
    static void noTestIsMissing(Checks c) throws IOException {
        Set<String> named = new TreeSet<>();
        Matcher m = TEST.matcher(Files.readString(PAGE));
        while (m.find()) named.add(m.group(1));
        Set<String> there = new TreeSet<>();
        try (Stream<Path> files = Files.list(TESTS)) {
            for (Path file : files.collect(Collectors.toList())) {
                String name = file.getFileName().toString().replace(".java", "");
                if (name.endsWith("Test")) there.add(name);
            }
        }
        c.same("all that it names are there", there.containsAll(named), true);
        there.removeIf(name -> name.startsWith("Promise"));
        c.same("all that are there are named", named.containsAll(there), true);
    }

    static void eachPromiseHasItsTest(Checks c) throws IOException {
        Set<String> numbers = new TreeSet<>();
        try (Stream<Path> files = Files.list(TESTS)) {
            for (Path file : files.collect(Collectors.toList())) {
                String name = file.getFileName().toString();
                if (name.matches("Promise\\d\\d\\w+Test\\.java")) numbers.add(name.substring(7, 9));
            }
        }
        c.due("promises with a test file", numbers.size(), 28);
        c.same("from 01", numbers.contains("01"), true);
        c.same("to 28", numbers.contains("28"), true);
    }

    private static List<Matcher> rows(Pattern pattern) throws IOException {
        return Files.readAllLines(PAGE).stream().map(pattern::matcher).filter(Matcher::matches).collect(Collectors.toList());
    }

    private static int numbersIn(String text) {
        return text.isBlank() ? 0 : text.split(",").length;
    }

    private static long answer(MeetSets x, String name, String numbers) throws ReflectiveOperationException {
        int many = numbersIn(numbers);
        Class<?>[] types = new Class<?>[many];
        Object[] values = new Object[many];
        for (int i = 0; i < many; i++) {
            types[i] = int.class;
            values[i] = Integer.parseInt(numbers.split(",")[i].trim());
        }
        return ((Number) MeetSets.class.getMethod(name, types).invoke(x, values)).longValue();
    }
}

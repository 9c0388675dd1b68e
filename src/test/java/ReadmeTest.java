import java.io.IOException;
import java.lang.reflect.Field;
import java.lang.reflect.Method;
import java.lang.reflect.Modifier;
import java.nio.file.DirectoryStream;
import java.nio.file.Files;
import java.nio.file.Path;
import java.util.Arrays;
import java.util.List;
import java.util.Set;
import java.util.TreeSet;
import java.util.regex.Matcher;
import java.util.regex.Pattern;

/** README.md: what it tells of the class and of its tests must be so. */
final class ReadmeTest {
    private static final Pattern CALL_AND_ANSWER =
            Pattern.compile("probes\\.(\\w+)\\(([-0-9, ]*)\\); +// (-?\\w+)(: .*)?");
    private static final Pattern ROW_OF_CALL =
            Pattern.compile("\\| `(\\w+)\\(([\\w, ]*)\\)` \\|.*");
    private static final Pattern ROW_OF_CONSTANT =
            Pattern.compile("\\| `([A-Z]+)` \\| (-?\\d+) \\|.*");
    private static final Pattern ROW_OF_TEST = Pattern.compile("\\| `(\\w+Test)` \\|.*");

    public static void main(String[] args) throws IOException, ReflectiveOperationException {
        List<String> lines = Files.readAllLines(Path.of("README.md"));
        Due due = new Due();
        exampleAnswers(due, lines);
        tellsEachCall(due, lines);
        tellsEachConstant(due, lines);
        tellsEachTest(due, lines);
        due.end();
    }

    private static void exampleAnswers(Due due, List<String> lines)
            throws ReflectiveOperationException {
        due.test("README: Behind each call stands what it answers.");
        List<String> code = lines.subList(lines.indexOf("```java") + 1, lines.size());
        code = code.subList(0, code.indexOf("```"));
        due.is(code.get(0), code.get(0).equals("FamilyProbes probes = new FamilyProbes();"), true);
        Run x = new Run();
        for (String line : code.subList(1, code.size())) {
            Matcher told = CALL_AND_ANSWER.matcher(line);
            boolean tells = told.matches();
            due.is("'" + line + "' tells a call and its answer", tells, true);
            if (tells) {
                int[] numbers = numbersIn(told.group(2));
                due.is(x, answer(x, told.group(1), numbers), meant(told.group(3)));
            }
        }
    }

    private static int[] numbersIn(String told) {
        return told.isEmpty() ? new int[0]
                : Arrays.stream(told.split(", ")).mapToInt(Integer::parseInt).toArray();
    }

    private static int answer(Run x, String name, int[] numbers)
            throws ReflectiveOperationException {
        Class<?>[] types = new Class<?>[numbers.length];
        Arrays.fill(types, int.class);
        Object[] given = Arrays.stream(numbers).boxed().toArray();
        Object answered = Run.class.getDeclaredMethod(name, types).invoke(x, given);
        return answered instanceof Boolean told ? (told ? 1 : 0) : (Integer) answered;
    }

    private static int meant(String answer) throws ReflectiveOperationException {
        if (answer.equals("true") || answer.equals("false")) {
            return answer.equals("true") ? 1 : 0;
        }
        return Character.isLetter(answer.charAt(0))
                ? FamilyProbes.class.getField(answer).getInt(null) : Integer.parseInt(answer);
    }

    private static void tellsEachCall(Due due, List<String> lines) {
        due.test("README: Its calls");
        Set<String> calls = new TreeSet<>();
        for (Method method : FamilyProbes.class.getDeclaredMethods()) {
            if (Modifier.isPublic(method.getModifiers())) {
                calls.add(method.getName() + " of " + method.getParameterCount());
            }
        }
        Set<String> told = new TreeSet<>();
        for (Matcher row : rows(ROW_OF_CALL, lines)) {
            String parameters = row.group(2);
            int count = parameters.isEmpty() ? 0 : parameters.split(", ").length;
            told.add(row.group(1) + " of " + count);
        }
        sameNames(due, told, calls);
    }

    private static void tellsEachConstant(Due due, List<String> lines)
            throws ReflectiveOperationException {
        due.test("README: How a call went is one of the constants");
        Set<String> constants = new TreeSet<>();
        for (Field field : FamilyProbes.class.getFields()) {
            constants.add(field.getName() + " is " + field.getInt(null));
        }
        Set<String> told = new TreeSet<>();
        for (Matcher row : rows(ROW_OF_CONSTANT, lines)) {
            told.add(row.group(1) + " is " + row.group(2));
        }
        sameNames(due, told, constants);
    }

    private static void tellsEachTest(Due due, List<String> lines) throws IOException {
        due.test("README: Tests");
        Set<String> tests = new TreeSet<>();
        Path folder = Path.of("src", "test", "java");
        try (DirectoryStream<Path> files = Files.newDirectoryStream(folder, "*Test.java")) {
            for (Path file : files) {
                tests.add(file.getFileName().toString().replace(".java", ""));
            }
        }
        Set<String> told = new TreeSet<>();
        for (Matcher row : rows(ROW_OF_TEST, lines)) {
            told.add(row.group(1));
        }
        sameNames(due, told, tests);
    }

    private static List<Matcher> rows(Pattern shape, List<String> lines) {
        return lines.stream().map(shape::matcher).filter(Matcher::matches).toList();
    }

    private static void sameNames(Due due, Set<String> told, Set<String> want) {
        due.is("told " + told + ", there are " + want, told.equals(want), true);
    }
}

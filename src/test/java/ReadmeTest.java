import java.io.IOException;
import java.lang.reflect.Method;
import java.lang.reflect.Modifier;
import java.nio.file.Files;
import java.nio.file.Path;
import java.util.Arrays;
import java.util.Set;
import java.util.TreeSet;
import java.util.regex.Matcher;
import java.util.regex.Pattern;
import java.util.stream.Collectors;
import java.util.stream.Stream;

/** README.md: the answers in its examples, and that it names every call, constant and test. */
public final class ReadmeTest {
    private static final Checks CHECKS = new Checks("ReadmeTest");
    private static final Pattern BLOCK = Pattern.compile("(?s)```java\n(.*?)```");
    private static final Pattern CALL =
            Pattern.compile("bench\\.(\\w+)\\((.*)\\); +// (NONE|BAD|STATE|FULL|-?\\d+)(:.*)?");
    private static final Pattern ROW = Pattern.compile("(?m)^\\| `(\\w+)\\((.*?)\\)` \\|");
    private static final Pattern TEST = Pattern.compile("(?m)^\\| `(\\w+Test)` \\|");

    private ReadmeTest() {
    }

    public static void main(String[] args) throws IOException, ReflectiveOperationException {
        String readme = Files.readString(Path.of("README.md"));
        examples(readme);
        calls(readme);
        constants(readme);
        tests(readme);
        CHECKS.end();
    }

    private static void examples(String readme) throws ReflectiveOperationException {
        int examples = 0;
        for (Matcher block = BLOCK.matcher(readme); block.find(); examples++) {
            SandBench bench = new SandBench();
            String[] lines = block.group(1).split("\n");
            CHECKS.holds("an example makes its bench",
                    lines[0].equals("SandBench bench = new SandBench();"));
            for (int i = 1; i < lines.length; i++) {
                example(bench, lines[i]);
            }
        }
        CHECKS.due("examples", examples, 3);
    }

    private static void example(SandBench bench, String line) throws ReflectiveOperationException {
        Matcher call = CALL.matcher(line);
        boolean isCall = call.matches();
        CHECKS.holds("a call and its answer: " + line, isCall);
        if (isCall) {
            String[] words = call.group(2).isEmpty() ? new String[0] : call.group(2).split(", ");
            Object[] arguments = Arrays.stream(words).map(ReadmeTest::valueOf).toArray();
            Number got = (Number) methodNamed(call.group(1)).invoke(bench, arguments);
            CHECKS.due(line, got.longValue(), answerOf(call.group(3)));
        }
    }

    private static Object valueOf(String word) {
        if (word.equals("true") || word.equals("false")) {
            return Boolean.valueOf(word);
        }
        return word.startsWith("'") ? (int) word.charAt(1) : Integer.parseInt(word);
    }

    private static long answerOf(String word) throws ReflectiveOperationException {
        boolean isName = Character.isLetter(word.charAt(0));
        return isName ? SandBench.class.getField(word).getInt(null) : Long.parseLong(word);
    }

    private static Method methodNamed(String name) throws NoSuchMethodException {
        return face().filter(method -> method.getName().equals(name)).findFirst()
                .orElseThrow(() -> new NoSuchMethodException(name));
    }

    private static Stream<Method> face() {
        return Arrays.stream(SandBench.class.getDeclaredMethods())
                .filter(method -> Modifier.isPublic(method.getModifiers()));
    }

    private static void calls(String readme) {
        Set<String> told = new TreeSet<>();
        for (Matcher row = ROW.matcher(readme); row.find();) {
            String parameters = row.group(2);
            told.add(row.group(1) + " " + (parameters.isEmpty() ? 0 : parameters.split(",").length));
        }
        Set<String> made = face().map(method -> method.getName() + " "
                + method.getParameterCount()).collect(Collectors.toCollection(TreeSet::new));
        CHECKS.holds("the calls " + made + " are told: " + told, told.equals(made));
    }

    private static void constants(String readme) throws ReflectiveOperationException {
        for (String name : Set.of("NONE", "BAD", "STATE", "FULL")) {
            CHECKS.holds("the constant " + name,
                    readme.contains("\n| `" + name + "` | " + answerOf(name) + " |"));
        }
    }

    private static void tests(String readme) throws IOException {
        Set<String> told = new TreeSet<>();
        for (Matcher row = TEST.matcher(readme); row.find();) {
            told.add(row.group(1));
        }
        try (Stream<Path> files = Files.list(Path.of("src/test/java"))) {
            Set<String> made = files.map(file -> file.getFileName().toString())
                    .filter(name -> name.endsWith("Test.java"))
                    .map(name -> name.replace(".java", ""))
                    .collect(Collectors.toCollection(TreeSet::new));
            CHECKS.holds("the tests " + made + " are told: " + told, told.equals(made));
        }
        CHECKS.holds("how to run them", readme.contains("\n.ci/run\n"));
    }
}

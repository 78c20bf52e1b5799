import java.io.IOException;
import java.lang.reflect.Method;
import java.lang.reflect.Modifier;
import java.nio.file.Files;
import java.nio.file.Path;
import java.util.ArrayList;
import java.util.List;
import java.util.Set;
import java.util.TreeSet;
import java.util.regex.Matcher;
import java.util.regex.Pattern;
import java.util.stream.Stream;

/** What README.md says holds: its examples do what their comments say, and it names all calls and tests. */
public final class ReadmeTest {
    private static final Path README = Path.of("README.md");
    private static final Path TESTS = Path.of("src", "test", "java");
    private static final Path CI = Path.of(".ci", "run");
    private static final Pattern CALL = Pattern.compile("desk\\.(\\w+)\\(([^)]*)\\); +// (.+)");
    private static final Pattern MAKES = Pattern.compile("slot (\\d) becomes (.+)");
    private static final Pattern THROWS = Pattern.compile("throws (\\w+)(: .+)?");
    private static final Pattern ANSWERS = Pattern.compile("(-?\\d+)(: .+)?");
    private static final Pattern CALL_OF_TABLE = Pattern.compile("\\| `(\\w+)\\(([^)]*)\\)` \\|.*");
    private static final Pattern NAME_OF_TEST = Pattern.compile("`(\\w+Test)`");

    public static void main(String[] args) throws IOException {
        List<String> lines = Files.readAllLines(README);
        examples(lines);
        table(lines);
        tests(lines);
        Bench.due("executable: " + CI, Files.isExecutable(CI), true);
        Bench.finish();
    }

    private static void examples(List<String> lines) {
        boolean inside = false;
        Bench bench = new Bench();
        Set<String> shown = new TreeSet<>();
        for (String line : lines) {
            if (line.startsWith("```")) {
                inside = line.equals("```java");
            } else if (inside && line.equals("OrdinalDesk desk = new OrdinalDesk();")) {
                bench = new Bench();
            } else if (inside) {
                shown.add(example(bench, line));
            }
        }
        Bench.due("sorts of examples", shown, Set.of("answers", "makes", "throws"));
    }

    /** Holds the line's call against its comment; answers of which sort that is. */
    private static String example(Bench bench, String line) {
        Matcher call = CALL.matcher(line);
        if (!call.matches()) {
            return "not understood: " + line;
        }
        String name = call.group(1);
        String got = Calls.outcome(bench.desk, name, numbers(call.group(2)));
        Matcher makes = MAKES.matcher(call.group(3));
        Matcher thrown = THROWS.matcher(call.group(3));
        Matcher answers = ANSWERS.matcher(call.group(3));
        if (makes.matches()) {
            Tree made = Tree.of(makes.group(2));
            boolean silent = Calls.method(OrdinalDesk.class, name).getReturnType() == void.class;
            Bench.due(line, got, silent ? "null" : Integer.toString(made.size()));
            Bench.due(line, bench.read(Integer.parseInt(makes.group(1))).toString(), made.toString());
            return "makes";
        }
        if (thrown.matches()) {
            Bench.due(line, got, thrown.group(1));
            return "throws";
        }
        Bench.due(line, got, answers.matches() ? answers.group(1) : "what its comment says");
        return "answers";
    }

    private static int[] numbers(String text) {
        return text.isEmpty() ? new int[0]
                : Stream.of(text.split(", ")).mapToInt(Integer::parseInt).toArray();
    }

    private static void table(List<String> lines) {
        List<String> told = new ArrayList<>();
        for (String line : lines) {
            Matcher call = CALL_OF_TABLE.matcher(line);
            if (call.matches()) {
                told.add(withCount(call.group(1), call.group(2).isEmpty() ? 0 : call.group(2).split(", ").length));
            }
        }
        List<String> there = new ArrayList<>();
        for (Method method : OrdinalDesk.class.getDeclaredMethods()) {
            if (Modifier.isPublic(method.getModifiers())) {
                there.add(withCount(method.getName(), method.getParameterCount()));
            }
        }
        told.sort(null);
        there.sort(null);
        Bench.due("calls in the table", told, there);
    }

    private static String withCount(String name, int arguments) {
        return name + " of " + arguments;
    }

    private static void tests(List<String> lines) throws IOException {
        Set<String> told = new TreeSet<>();
        Matcher name = NAME_OF_TEST.matcher(String.join("\n", lines));
        while (name.find()) {
            told.add(name.group(1) + ".java");
        }
        Set<String> there = new TreeSet<>();
        try (Stream<Path> files = Files.list(TESTS)) {
            files.map(file -> file.getFileName().toString()).filter(file -> file.endsWith("Test.java"))
                    .forEach(there::add);
        }
        Bench.due("tests that are named", told, there);
    }
}

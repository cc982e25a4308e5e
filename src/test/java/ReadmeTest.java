import java.io.File;
import java.io.IOException;
import java.lang.reflect.Method;
import java.lang.reflect.Modifier;
import java.nio.file.Files;
import java.nio.file.Path;
import java.util.ArrayList;
import java.util.Comparator;
import java.util.List;
import java.util.Set;
import java.util.TreeSet;
import java.util.regex.Matcher;
import java.util.regex.Pattern;
import java.util.stream.Stream;

/** What README.md says of how to use the class and of how to run its tests. */
public final class ReadmeTest {
    private static final Pattern CALL = Pattern.compile("x\\.(\\w+)\\(([^)]*)\\);\\s*// (.*)");
    private static final Pattern ROW = Pattern.compile("\\| `(?:new )?(\\w+)(?:\\([^)]*\\))?` \\| .*");
    private static final Pattern TEST_NAME = Pattern.compile("`(\\w+Test)`");

    private static List<String> lines;

    public static void main(String[] args) throws Exception {
        lines = Files.readAllLines(Path.of("README.md"));
        theExample();
        everyCallHasARow();
        everyAnswerHasARow();
        everyTestIsNamed();
        theWordsOfATest();
        oneTestByItself();
        theScriptForAllTests();
        Check.finish();
    }

    /** Each line of the example is called; its comment begins with the answer, or names the token. */
    private static void theExample() throws Exception {
        Check.sentence("the example in README.md");
        List<String> example = between("```java", "```");
        Check.due("lines of the example", example.size() > 10, true);
        Check.due(example.get(0), example.get(0).startsWith("RegisterCompiler x = new RegisterCompiler(4);"), true);
        RegisterCompiler x = new RegisterCompiler(4);
        for (String line : example.subList(1, example.size())) {
            Matcher call = CALL.matcher(line);
            Check.due("a call with its answer: " + line, call.matches(), true);
            int[] given = numbers(call.group(2));
            if (call.group(1).equals("token")) {
                Check.due(line, x.token(given[0], given[1]), true);
                dueToken(line, call.group(3), given[0], given[1]);
            } else {
                Check.due(line, answer(x, call.group(1), given), number(call.group(3).split("[ :;,]")[0]));
            }
        }
    }

    private static void dueToken(String line, String comment, int kind, int value) {
        if (comment.endsWith(" parameters")) {
            Check.due("kind in " + line, kind, 0);
            Check.due("value in " + line, value, Integer.parseInt(comment.split(" ")[0]));
        } else if (comment.startsWith("VAR ")) {
            Check.due("kind in " + line, kind, 1);
            Check.due("value in " + line, value, Integer.parseInt(comment.split(" ")[1]));
        } else {
            Check.due("kind in " + line, kind, Check.kind(comment));
        }
    }

    private static int answer(RegisterCompiler x, String name, int[] given) throws Exception {
        Class<?>[] types = new Class<?>[given.length];
        Object[] values = new Object[given.length];
        for (int i = 0; i < given.length; i++) {
            types[i] = int.class;
            values[i] = given[i];
        }
        return (Integer) RegisterCompiler.class.getMethod(name, types).invoke(x, values);
    }

    /** A number, or a constant by its name. */
    private static int number(String word) throws Exception {
        return word.matches("-?\\d+") ? Integer.parseInt(word) : RegisterCompiler.class.getField(word).getInt(null);
    }

    private static int[] numbers(String given) {
        return given.isBlank() ? new int[0] : Stream.of(given.split(", ")).mapToInt(Integer::parseInt).toArray();
    }

    private static void everyCallHasARow() {
        Check.sentence("the table of calls in README.md");
        Set<String> due = new TreeSet<>(Set.of("RegisterCompiler"));
        for (Method method : RegisterCompiler.class.getDeclaredMethods()) {
            if (Modifier.isPublic(method.getModifiers())) {
                due.add(method.getName());
            }
        }
        Set<String> rows = rowsBelow("| call | what it does |");
        Check.due("rows " + rows, rows.equals(due), true);
    }

    private static void everyAnswerHasARow() {
        Check.sentence("the tables of answers in README.md");
        Set<String> compile = rowsBelow("| `compile()` answers | if |");
        Check.due("rows " + compile, compile.equals(Set.of("OK", "SYNTAX", "LOOP", "UNKNOWN", "COUNT")), true);
        Set<String> run = rowsBelow("| `run(f, a, b, c)` answers | if |");
        Check.due("rows " + run, run.equals(Set.of("DONE", "DIVIDE", "INDEX", "DEEP", "STOPPED", "REFUSED")), true);
    }

    /** Those of the promises are named as a range. */
    private static void everyTestIsNamed() {
        Check.sentence("the list of tests in README.md");
        Set<String> named = new TreeSet<>();
        Matcher name = TEST_NAME.matcher(String.join("\n", lines));
        while (name.find()) {
            named.add(name.group(1));
            Check.due("there is a " + name.group(1), new File("src/test/java/" + name.group(1) + ".java").isFile(), true);
        }
        for (String file : new File("src/test/java").list()) {
            boolean due = file.endsWith("Test.java") && !file.startsWith("Promise");
            Check.due(file + " is named", !due || named.contains(file.replace(".java", "")), true);
        }
    }

    private static void theWordsOfATest() {
        Check.sentence("the example of a check in README.md");
        Check.due("README.md has it",
                lines.contains("    Check.dueFault(\"func 1 { return 9 @/ v0 ; }\", 0, 0, 0, RegisterCompiler.DIVIDE);"), true);
        Check.dueFault("func 1 { return 9 @/ v0 ; }", 0, 0, 0, RegisterCompiler.DIVIDE);
    }

    /** The commands are run as they stand, but for the place of the classes. */
    private static void oneTestByItself() throws Exception {
        Check.sentence("the commands in README.md");
        Path build = Files.createTempDirectory("readme");
        int commands = 0;
        for (String line : lines) {
            if (line.startsWith("    javac ") || line.startsWith("    java ")) {
                commands++;
                Process process = new ProcessBuilder("sh", "-c", line.replace(" build ", " " + build + " ")).inheritIO().start();
                Check.due(line.trim(), process.waitFor(), 0);
            }
        }
        Check.due("commands", commands, 2);
        Check.due("classes were made", new File(build.toFile(), "RegisterCompiler.class").isFile(), true);
        remove(build);
    }

    private static void remove(Path directory) throws IOException {
        try (Stream<Path> files = Files.walk(directory)) {
            files.sorted(Comparator.reverseOrder()).map(Path::toFile).forEach(File::delete);
        }
    }

    private static void theScriptForAllTests() {
        Check.sentence("the script in README.md");
        Check.due("README.md has it", lines.contains("    .ci/run"), true);
        Check.due("it can be executed", new File(".ci/run").canExecute(), true);
    }

    private static List<String> between(String first, String last) {
        int start = lines.indexOf(first) + 1;
        int count = lines.subList(start, lines.size()).indexOf(last);
        return lines.subList(start, start + count);
    }

    private static Set<String> rowsBelow(String head) {
        List<String> below = new ArrayList<>(lines.subList(lines.indexOf(head) + 2, lines.size()));
        Set<String> names = new TreeSet<>();
        for (String line : below.subList(0, below.indexOf(""))) {
            Matcher row = ROW.matcher(line);
            Check.due("a row: " + line, row.matches(), true);
            names.add(row.group(1));
        }
        return names;
    }
}

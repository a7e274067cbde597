import java.io.File;
import java.io.IOException;
import java.lang.reflect.Method;
import java.lang.reflect.Modifier;
import java.net.URL;
import java.net.URLClassLoader;
import java.nio.file.Files;
import java.nio.file.Path;
import java.util.ArrayList;
import java.util.Comparator;
import java.util.List;
import java.util.Map;
import java.util.Set;
import java.util.TreeSet;
import java.util.regex.Matcher;
import java.util.regex.Pattern;
import java.util.stream.Stream;
import javax.tools.ToolProvider;

/**
 * What README.md says is so: the calls that it shows are compiled and answer the number behind them,
 * its tables have each call with its refusals and each kind, and the tests that it names are there
 * and run by the commands that it gives.
 */
public final class ReadmeTest {
    private static final Path README = Path.of("README.md");
    private static final Path TESTS = Path.of("src/test/java");
    private static final Pattern BLOCK = Pattern.compile("(?ms)^```(\\w+)\n(.*?)^```$");
    private static final Pattern NEW_OBJECT = Pattern.compile("PhraseMoves \\w+ = new PhraseMoves\\(\\);");
    private static final Pattern SHOWN_CALL =
            Pattern.compile("(?:(?:int|long) (\\w+) = )?(\\w+\\.(\\w+)\\(.*\\)); *// (-?\\d+)(?:: .*)?");
    private static final Pattern CALL_ROW = Pattern.compile("(?m)^\\| `(\\w+)\\(([\\w, ]*)\\)` \\| .* \\| ?([-\\d, ]*)\\|$");
    private static final Pattern KIND_ROW =
            Pattern.compile("(?m)^\\| [A-Z]+ \\| `ask\\((\\d+), ([-a-z]), ([-a-z]), ([-a-z])\\)` \\| .* \\|$");
    private static final int KINDS = 11;

    /** The refusals in the order of the promises; calls that are not here have none. */
    private static final Map<String, String> REFUSALS = Map.ofEntries(
            Map.entry("put", "-1, -2"), Map.entry("ask", "-2, -1, -4"), Map.entry("count", "-1"),
            Map.entry("begin", "-1"), Map.entry("end", "-1"), Map.entry("covered", "-1"),
            Map.entry("slot", "-2, -4"), Map.entry("matches", "-2"), Map.entry("weight", "-2"),
            Map.entry("least", "-3"), Map.entry("chosen", "-1, -3"), Map.entry("shortest", "-2, -3"));

    private static int wrong = 0;

    public static void main(String[] args) throws Exception {
        String readme = Files.readString(README);
        Path folder = Files.createTempDirectory("readme");
        try {
            checkShownCalls(blocks(readme, "java"), folder);
            checkTableOfCalls(readme);
            checkTableOfKinds(readme);
            checkNamesOfTests(readme);
            checkCommands(blocks(readme, "sh"), folder);
        } finally {
            remove(folder);
        }
        System.out.println(wrong == 0 ? "README.md says what is so" : wrong + " faults");
        if (wrong != 0) {
            System.exit(1);
        }
    }

    private static void need(boolean holds, String what) {
        if (!holds) {
            wrong++;
            System.out.println("not so: " + what);
        }
    }

    /** Called by the lines that are compiled out of README.md as well. */
    public static void due(String line, long got, long want) {
        need(got == want, "README.md: " + line + " (it answered " + got + ")");
    }

    private static List<String> blocks(String readme, String language) {
        List<String> found = new ArrayList<>();
        Matcher block = BLOCK.matcher(readme);
        while (block.find()) {
            if (block.group(1).equals(language)) {
                found.add(block.group(2));
            }
        }
        need(!found.isEmpty(), "README.md has a block of " + language);
        return found;
    }

    private static Set<Method> face() {
        Set<Method> face = new TreeSet<>(Comparator.comparing(Method::getName));
        for (Method method : PhraseMoves.class.getDeclaredMethods()) {
            if (Modifier.isPublic(method.getModifiers())) {
                face.add(method);
            }
        }
        return face;
    }

    private static void checkShownCalls(List<String> blocks, Path folder) throws Exception {
        StringBuilder source = new StringBuilder("public final class ShownCalls {\n");
        source.append("    public static void play() {\n");
        Set<String> shown = new TreeSet<>();
        for (String block : blocks) {
            source.append("{\n");
            for (String line : block.split("\n")) {
                source.append(compared(line.trim(), shown)).append('\n');
            }
            source.append("}\n");
        }
        source.append("    }\n}\n");
        for (Method method : face()) {
            need(shown.contains(method.getName()), "README.md shows " + method.getName() + " with its answer");
        }
        play(source.toString(), folder);
    }

    /** The line as it stands, but for its comment, which becomes the answer that is due. */
    private static String compared(String line, Set<String> shown) {
        if (line.isEmpty() || NEW_OBJECT.matcher(line).matches()) {
            return line;
        }
        Matcher call = SHOWN_CALL.matcher(line);
        if (!call.matches()) {
            need(false, "this line of README.md shows a call with its answer: " + line);
            return "";
        }
        shown.add(call.group(3));
        String quoted = "\"" + line.replace("\\", "\\\\").replace("\"", "\\\"") + "\"";
        if (call.group(1) == null) {
            return "ReadmeTest.due(" + quoted + ", " + call.group(2) + ", " + call.group(4) + "L);";
        }
        String statement = line.substring(0, line.indexOf(';') + 1);
        return statement + " ReadmeTest.due(" + quoted + ", " + call.group(1) + ", " + call.group(4) + "L);";
    }

    private static void play(String source, Path folder) throws Exception {
        Path file = folder.resolve("ShownCalls.java");
        Files.writeString(file, source);
        int exit = ToolProvider.getSystemJavaCompiler().run(null, null, null, "-encoding", "UTF-8",
                "-cp", System.getProperty("java.class.path"), "-d", folder.toString(), file.toString());
        need(exit == 0, "the calls of README.md compile");
        if (exit == 0) {
            URL[] here = {folder.toUri().toURL()};
            try (URLClassLoader loader = new URLClassLoader(here, ReadmeTest.class.getClassLoader())) {
                loader.loadClass("ShownCalls").getMethod("play").invoke(null);
            }
        }
    }

    private static void checkTableOfCalls(String readme) {
        Set<String> rows = new TreeSet<>();
        Matcher row = CALL_ROW.matcher(readme);
        while (row.find()) {
            int parameters = row.group(2).isEmpty() ? 0 : row.group(2).split(", ").length;
            rows.add(row.group(1) + " " + parameters + " [" + row.group(3).trim() + "]");
        }
        Set<String> due = new TreeSet<>();
        for (Method method : face()) {
            String refusals = REFUSALS.getOrDefault(method.getName(), "");
            due.add(method.getName() + " " + method.getParameterCount() + " [" + refusals + "]");
        }
        need(rows.equals(due), "README.md has the calls " + due + ", but has " + rows);
    }

    private static void checkTableOfKinds(String readme) {
        int kinds = 0;
        Matcher row = KIND_ROW.matcher(readme);
        while (row.find()) {
            need(Integer.parseInt(row.group(1)) == kinds, "kind " + kinds + " is next in README.md: " + row.group());
            kinds++;
            checkWhatCounts(row);
        }
        need(kinds == KINDS, "README.md has all kinds of ask");
    }

    /** What stands as '-' may be any number, all else is refused beyond its bounds. */
    private static void checkWhatCounts(Matcher row) {
        int[] numbers = {Integer.parseInt(row.group(1)), 0, 0, 0};
        for (int i = 1; i <= 3; i++) {
            if (row.group(i + 1).equals("-")) {
                numbers[i] = Integer.MAX_VALUE;
            }
        }
        need(askBehindOne(numbers) == 1, "it is taken without what does not count: " + row.group());
        for (int i = 1; i <= 3; i++) {
            if (numbers[i] == 0) {
                numbers[i] = Integer.MAX_VALUE;
                need(askBehindOne(numbers) == (i == 3 ? -2 : -1), "number " + i + " counts: " + row.group());
                numbers[i] = 0;
            }
        }
    }

    private static int askBehindOne(int[] numbers) {
        PhraseMoves x = new PhraseMoves();
        x.ask(0, 0, 0, 0);
        return x.ask(numbers[0], numbers[1], numbers[2], numbers[3]);
    }

    private static void checkNamesOfTests(String readme) throws IOException {
        Set<String> named = new TreeSet<>();
        Matcher name = Pattern.compile("`(\\w+Test)`").matcher(readme);
        while (name.find()) {
            named.add(name.group(1));
        }
        Set<String> there = new TreeSet<>();
        try (Stream<Path> files = Files.list(TESTS)) {
            files.map(file -> file.getFileName().toString()).filter(file -> file.endsWith(".java"))
                    .forEach(file -> there.add(file.replace(".java", "")));
        }
        need(named.equals(there), "README.md names the tests " + there + ", but names " + named);
    }

    /** The command that runs all tests runs this one too, so of that only the file is looked for. */
    private static void checkCommands(List<String> blocks, Path folder) throws Exception {
        int ran = 0;
        for (String block : blocks) {
            if (block.trim().equals(".ci/run")) {
                need(new File(".ci/run").canExecute(), ".ci/run can be run");
                continue;
            }
            ran++;
            String commands = "set -e\n" + block.replaceAll("(?<= )build(?= )", folder.resolve("one").toString());
            Process shell = new ProcessBuilder("sh", "-c", commands).redirectErrorStream(true).start();
            String said = new String(shell.getInputStream().readAllBytes());
            need(shell.waitFor() == 0, "the commands of README.md end well: " + block + said);
        }
        need(ran == 1 && blocks.size() == 2, "README.md has the commands for all tests and for one");
    }

    private static void remove(Path folder) throws IOException {
        try (Stream<Path> files = Files.walk(folder)) {
            files.sorted(Comparator.reverseOrder()).forEach(file -> file.toFile().delete());
        }
    }
}

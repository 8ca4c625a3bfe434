import java.io.IOException;
import java.lang.reflect.Field;
import java.lang.reflect.Method;
import java.lang.reflect.Modifier;
import java.nio.file.Files;
import java.nio.file.Path;
import java.util.ArrayList;
import java.util.List;
import java.util.regex.Matcher;
import java.util.regex.Pattern;
import java.util.stream.Collectors;
import java.util.stream.Stream;

/** What README.md shows holds: its example, its table of calls, and the command that runs the tests. */
public final class ReadmeTest {
    private static final Pattern SHOWN = Pattern.compile("^\\s*show\\(.*\\);\\s*// ([^:]+): .+$");
    private static final Path TESTS = Path.of("src/test/java");

    private static final String PROJECT_TEST = "src/test/java/OneTest.java";
    private static final String SHARED_TEST = "../shared/tests/Other.java";

    public static void main(String[] args) throws IOException, InterruptedException {
        String readme = Files.readString(Path.of("README.md"));
        String use = section(readme, "Use");
        String tests = section(readme, "Tests");
        exampleAnswersWhatItsCommentsSay(block(use, "java"), block(use, "sh"));
        tableHasEachCall(use);
        arraysAreAsBigAsItSays();
        commandRunsTheTests(block(tests, "sh"));
        testsAreRunAndNamed(tests);
        Check.end();
    }

    private static String section(String readme, String name) {
        int start = readme.indexOf("\n## " + name + "\n");
        if (start < 0) {
            Check.report("README.md has no section " + name);
            return "";
        }
        int end = readme.indexOf("\n## ", start + 1);
        return readme.substring(start, end < 0 ? readme.length() : end);
    }

    private static String block(String section, String language) {
        Matcher block = Pattern.compile("```" + language + "\n(.*?)```", Pattern.DOTALL).matcher(section);
        if (!block.find()) {
            Check.report("README.md has no block of " + language + " in " + section.strip().lines().findFirst());
            return "";
        }
        return block.group(1);
    }

    private static void exampleAnswersWhatItsCommentsSay(String example, String commands)
            throws IOException, InterruptedException {
        List<String> want = new ArrayList<>();
        for (String line : example.lines().collect(Collectors.toList())) {
            Matcher shown = SHOWN.matcher(line);
            if (shown.matches()) {
                want.add(shown.group(1));
            } else if (line.contains("show(") && !line.contains("void show(")) {
                Check.report("the example says not what this shows: " + line.strip());
            }
        }
        Check.due("the example shows something", true, want.size() > 0);
        for (String name : callNames()) {
            Check.due("the example uses " + name, true, example.contains("lists." + name + "("));
        }
        try (Scratch scratch = new Scratch()) {
            scratch.write("Example.java", example).run(commands);
            if (scratch.exitCode() != 0 || !scratch.printed().equals(want)) {
                Check.report("the example: " + scratch.all() + ", due is " + want);
            }
        }
    }

    private static List<String> callNames() {
        List<String> names = new ArrayList<>();
        for (Method method : WordLists.class.getDeclaredMethods()) {
            if (Modifier.isPublic(method.getModifiers())) {
                names.add(method.getName());
            }
        }
        return names;
    }

    private static void tableHasEachCall(String use) {
        String table = use.lines().filter(line -> line.startsWith("| `")).collect(Collectors.joining("\n"));
        for (String name : callNames()) {
            Check.due("the table has " + name, true, table.contains("`" + name + "("));
        }
    }

    private static void arraysAreAsBigAsItSays() {
        WordLists x = new WordLists();
        int elements = 0;
        try {
            for (Field field : WordLists.class.getDeclaredFields()) {
                if (field.getType().isArray()) {
                    field.setAccessible(true);
                    elements += java.lang.reflect.Array.getLength(field.get(x));
                }
            }
        } catch (IllegalAccessException e) {
            Check.report("the arrays cannot be seen: " + e);
        }
        Check.due("some 5,100 elements, not " + elements, true, elements > 5000 && elements < 5200);
    }

    private static String testThat(String name, String does) {
        return "public final class " + name + " { public static void main(String[] args) { "
            + "System.out.println(\"" + name + " has \" + new WordLists().begins(0)); " + does + " } }\n";
    }

    private static void commandRunsTheTests(String command) throws IOException, InterruptedException {
        dueRun("two tests that pass", command, "", "", 0, "2 passed, 0 failed");
        dueRun("a test that fails", command, "System.exit(1);", "", 1, "1 passed, 1 failed");
        dueRun("a test that throws", command, "throw new RuntimeException();", "", 1, "1 passed, 1 failed");
        dueRun("a shared test that fails", command, "", "System.exit(1);", 1, "1 passed, 1 failed");
        dueRun("a shared test that does not compile", command, "", "missing();", 1, "1 passed, 1 failed");
        noSharedTests(command);
        aProgramThatDoesNotCompile(command);
    }

    private static void dueRun(String what, String command, String ours, String shared, int exitCode, String last)
            throws IOException, InterruptedException {
        try (Scratch scratch = new Scratch()) {
            scratch.write(PROJECT_TEST, testThat("OneTest", ours));
            scratch.write(SHARED_TEST, testThat("Other", shared));
            scratch.run(command);
            dueEnd(what, scratch, exitCode, last);
            Check.due(what + ": the project's test was run", true, scratch.printed().contains("OneTest has 0"));
            Check.due(what + ": its failure is told", !ours.isEmpty(), scratch.printed().contains("FAILED: " + PROJECT_TEST));
            Check.due(what + ": the shared test was run", !shared.equals("missing();"), scratch.printed().contains("Other has 0"));
            Check.due(what + ": its failure is told", !shared.isEmpty(), scratch.printed().contains("FAILED: " + SHARED_TEST));
        }
    }

    private static void dueEnd(String what, Scratch scratch, int exitCode, String last) throws IOException {
        List<String> printed = scratch.printed();
        boolean asDue = !printed.isEmpty() && printed.get(printed.size() - 1).equals(last);
        if (scratch.exitCode() != exitCode || !asDue) {
            Check.report(what + ": " + scratch.all() + ", due is exit code " + exitCode + " and " + last);
        }
    }

    private static void noSharedTests(String command) throws IOException, InterruptedException {
        try (Scratch scratch = new Scratch()) {
            scratch.write(PROJECT_TEST, testThat("OneTest", "")).run(command);
            dueEnd("no shared tests", scratch, 1, "1 passed, 1 failed");
        }
    }

    private static void aProgramThatDoesNotCompile(String command) throws IOException, InterruptedException {
        try (Scratch scratch = new Scratch()) {
            scratch.write(PROJECT_TEST, testThat("OneTest", ""));
            scratch.write(SHARED_TEST, testThat("Other", ""));
            scratch.write("src/main/java/WordLists.java", "public final class WordLists {").run(command);
            dueEnd("a program that does not compile", scratch, 1, "0 passed, 2 failed");
        }
    }

    /** .ci/run takes the files whose names end with Test: a test by another name would never run. */
    private static void testsAreRunAndNamed(String tests) throws IOException {
        List<Path> files;
        try (Stream<Path> all = Files.walk(TESTS)) {
            files = all.filter(Files::isRegularFile).collect(Collectors.toList());
        }
        for (Path file : files) {
            String name = file.getFileName().toString();
            boolean isTest = Files.readString(file).contains("\n    public static void main(String[] args)");
            Check.due(file + " lies where .ci/run looks", true, TESTS.equals(file.getParent()));
            Check.due(file + " has a name that .ci/run takes", isTest, name.endsWith("Test.java"));
            Check.due(file + " is named in README.md", true, tests.contains(isTest ? "`" + TESTS + "/" + name + "`" : "`" + name + "`"));
        }
        Matcher named = Pattern.compile("`(?:" + TESTS + "/)?([A-Z]\\w+\\.java)`").matcher(tests);
        while (named.find()) {
            Check.due(named.group(1) + " is there", true, Files.exists(TESTS.resolve(named.group(1))));
        }
    }
}

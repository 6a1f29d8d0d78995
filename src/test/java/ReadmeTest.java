import java.io.IOException;
import java.lang.invoke.MethodHandles;
import java.nio.charset.StandardCharsets;
import java.nio.file.Files;
import java.nio.file.Path;
import java.util.ArrayList;
import java.util.List;
import java.util.Set;
import java.util.TreeSet;
import java.util.regex.MatchResult;
import java.util.regex.Matcher;
import java.util.regex.Pattern;
import java.util.stream.Collectors;
import java.util.stream.Stream;
import javax.tools.ToolProvider;

/** README.md: its code is compiled and run, its answers are compared, the files that it names are looked for. */
public final class ReadmeTest {
    private static final Path README = Path.of("README.md");
    private static final Path TESTS = Path.of("src/test/java");
    // A call of the planner with a comment that begins with its answer.
    private static final Pattern ANSWERED = Pattern.compile("(planner\\.(\\w+)\\(.*\\)); +// (throws )?([^ :,]+).*");

    private final Set<String> shown = new TreeSet<>();
    private final StringBuilder members = new StringBuilder();
    private final StringBuilder steps = new StringBuilder();
    private int answers = 0;

    private ReadmeTest() {
    }

    public static void main(String[] args) throws Exception {
        String text = Files.readString(README, StandardCharsets.UTF_8);
        new ReadmeTest().code(text);
        names(text);
        claims(text);
        Check.end("ReadmeTest");
    }

    // ---- the code

    private void code(String text) throws Exception {
        Matcher block = Pattern.compile("(?s)```java\n(.*?)```").matcher(text);
        while (block.find()) {
            add(block.group(1));
        }
        for (String call : methodsOfTheFace()) {
            Check.same("the code shows a call of " + call, true, shown.contains(call));
        }
        run("public class Readme {\n" + members + "public static void main(String[] args) {\n" + steps + "}\n}\n");
    }

    private void add(String block) {
        if (block.startsWith("static ")) {
            Check.same("the code that is shown feeds a planner", true, block.contains("planner.feed("));
            shown.add("feed");
            members.append(block);
            return;
        }
        for (String line : block.split("\n")) {
            Matcher matcher = ANSWERED.matcher(line);
            if (matcher.matches()) {
                answers++;
                shown.add(matcher.group(2));
                steps.append(check(matcher.group(1), matcher.group(3) != null, matcher.group(4)));
            } else {
                Check.same("the answer is told: " + line, false, line.startsWith("planner."));
                steps.append(line).append('\n');
            }
        }
    }

    private String check(String call, boolean isThrown, String due) {
        String name = "\"" + answers + ": " + call + "\"";
        if (isThrown) {
            return "Check.fails(" + name + ", " + exceptionOf(due) + ".class, () -> " + call + ");\n";
        }
        String answer = call.startsWith("planner.measure(") ? due + "L" : due;
        return "Check.same(" + name + ", " + answer + ", " + call + ");\n";
    }

    private static String exceptionOf(String name) {
        return name.equals("NoSuchElementException") ? "java.util." + name : name;
    }

    private static Set<String> methodsOfTheFace() {
        return Stream.of(DistrictPlanner.class.getMethods())
                .filter(method -> method.getDeclaringClass() == DistrictPlanner.class)
                .map(method -> method.getName()).collect(Collectors.toCollection(TreeSet::new));
    }

    private void run(String program) throws Exception {
        Path place = Files.createTempDirectory("readme");
        try {
            Path file = place.resolve("Readme.java");
            Files.writeString(file, program);
            int status = ToolProvider.getSystemJavaCompiler().run(null, null, null, "-d", place.toString(), "-cp",
                    System.getProperty("java.class.path"), file.toString());
            Check.same("the code compiles", 0, status);
            if (status == 0) {
                Class<?> readme = MethodHandles.lookup().defineClass(Files.readAllBytes(place.resolve("Readme.class")));
                readme.getMethod("main", String[].class).invoke(null, (Object) new String[0]);
            }
        } finally {
            remove(place);
        }
    }

    private static void remove(Path place) throws IOException {
        for (Path file : filesIn(place)) {
            Files.delete(file);
        }
        Files.delete(place);
    }

    private static List<Path> filesIn(Path place) throws IOException {
        try (Stream<Path> files = Files.list(place)) {
            return files.sorted().collect(Collectors.toCollection(ArrayList::new));
        }
    }

    // ---- what else is said

    /** Each test is named, and each file of a name in back quotes is there. */
    private static void names(String text) throws IOException {
        Set<String> named = Pattern.compile("`(\\w+)`").matcher(text).results().map(ReadmeTest::first)
                .collect(Collectors.toSet());
        Set<String> there = new TreeSet<>();
        for (Path file : filesIn(TESTS)) {
            there.add(file.getFileName().toString().replace(".java", ""));
        }
        for (String test : there) {
            Check.same(test + " is named", true, named.contains(test));
        }
        for (String name : named) {
            boolean isTest = name.matches("\\w+(Test|Boundaries)");
            Check.same(name + " is there", true, !isTest || there.contains(name));
        }
        Matcher path = Pattern.compile("`((?:src|\\.ci)/[\\w/.]+)`").matcher(text);
        while (path.find()) {
            Check.same(path.group(1) + " is there", true, Files.exists(Path.of(path.group(1))));
        }
    }

    private static String first(MatchResult result) {
        return result.group(1);
    }

    private static void claims(String text) throws IOException {
        String model = Files.readString(TESTS.resolve("ModelTest.java"));
        Matcher runs = Pattern.compile("(\\d+) drawn runs of (\\d+) calls").matcher(text);
        Check.same("the drawn runs are told", true, runs.find());
        Check.same("as many runs", true, model.contains("RUNS = " + runs.group(1) + ";"));
        Check.same("as many calls", true, model.contains("CALLS = " + runs.group(2) + ";"));
        Check.same("the script", true, Files.isExecutable(Path.of(".ci/run")));
    }
}

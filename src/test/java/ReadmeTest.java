import java.io.IOException;
import java.lang.reflect.Method;
import java.lang.reflect.Modifier;
import java.nio.file.Files;
import java.nio.file.Path;
import java.nio.file.StandardCopyOption;
import java.util.ArrayList;
import java.util.Comparator;
import java.util.List;
import java.util.Set;
import java.util.TreeSet;
import java.util.regex.MatchResult;
import java.util.regex.Matcher;
import java.util.regex.Pattern;
import java.util.stream.Collectors;
import java.util.stream.Stream;

/**
 * README.md says what is so. Its program and its commands run in a small copy of the project: the
 * class, .ci/run, the tests under ../shared/tests, and of the project's own tests one (this one among
 * them would call itself without end).
 */
public final class ReadmeTest {
    private static final String PASSES = "public final class %s { public static void main(String[] args) { } }";
    private static final String FAILS = "public final class %s { public static void main(String[] args) { System.exit(1); } }";
    private static final String IS_NO_JAVA = "public final class %s {";

    private final String page;
    private final Path project;
    private final Path shared;

    /** What a command printed; errors are kept apart, for a Java machine may tell its settings there. */
    private record Ended(int code, List<String> lines, String errors) {
    }

    private ReadmeTest(String page, Path work) throws IOException {
        this.page = page;
        project = work.resolve("main");
        shared = work.resolve("shared/tests");
        for (String file : List.of(".ci/run", "src/main/java/WarpDesk.java", "src/test/java/Due.java",
            "src/test/java/FitTest.java")) {
            copy(Path.of(file), project.resolve(file));
        }
        for (Path test : filesOf(Path.of("../shared/tests"))) {
            copy(test, shared.resolve(test.getFileName()));
        }
    }

    public static void main(String[] args) throws Exception {
        Path work = Files.createTempDirectory("readme");
        try {
            ReadmeTest test = new ReadmeTest(Files.readString(Path.of("README.md")), work);
            test.everyCallIsNamed();
            test.everyTestIsListed();
            test.exampleSaysWhatItPrints();
            test.commandsOfTestsRun();
            test.ciFailsWithAnyTest();
        } finally {
            try (Stream<Path> all = Files.walk(work)) {
                all.sorted(Comparator.reverseOrder()).forEach(path -> path.toFile().delete());
            }
        }
        Due.end();
    }

    private static void copy(Path from, Path to) throws IOException {
        Files.createDirectories(to.getParent());
        Files.copy(from, to, StandardCopyOption.COPY_ATTRIBUTES);
    }

    private static List<Path> filesOf(Path folder) throws IOException {
        try (Stream<Path> files = Files.list(folder)) {
            return files.filter(file -> file.toString().endsWith(".java")).sorted().toList();
        }
    }

    private static Set<String> testsOf(Path folder) throws IOException {
        return filesOf(folder).stream().map(file -> file.getFileName().toString().replace(".java", ""))
            .collect(Collectors.toCollection(TreeSet::new));
    }

    // ---- what the page names

    private List<String> found(String pattern) {
        List<String> found = new ArrayList<>();
        Matcher matcher = Pattern.compile(pattern, Pattern.DOTALL | Pattern.MULTILINE).matcher(page);
        for (MatchResult result : matcher.results().toList()) {
            found.add(result.group(1));
        }
        return found;
    }

    private void everyCallIsNamed() {
        Due.says("README.md says how to use the class");
        Set<String> named = new TreeSet<>();
        for (String row : found("^\\| (`\\w+\\(.*?) \\|")) {
            Matcher matcher = Pattern.compile("`(\\w+)\\(([^)]*)\\)`").matcher(row);
            while (matcher.find()) {
                int parameters = matcher.group(2).isEmpty() ? 0 : matcher.group(2).split(",").length;
                Due.is("named once: " + matcher.group(1), named.add(matcher.group(1) + " " + parameters), true);
            }
        }
        Set<String> face = new TreeSet<>();
        for (Method method : WarpDesk.class.getDeclaredMethods()) {
            if (Modifier.isPublic(method.getModifiers())) {
                face.add(method.getName() + " " + method.getParameterCount());
            }
        }
        Due.is("the calls of the face: " + named, named.equals(face), true);
    }

    private void everyTestIsListed() throws IOException {
        Due.says("README.md says how to run its tests");
        Set<String> listed = new TreeSet<>(found("^\\| `(\\w+Test)` \\|"));
        Set<String> there = testsOf(Path.of("src/test/java"));
        there.removeIf(name -> !name.endsWith("Test"));
        Due.is("the tests that are there: " + listed, listed.equals(there), true);
    }

    // ---- what the page's commands do

    private Ended run(String commands) throws IOException, InterruptedException {
        Path errors = project.resolveSibling("errors");
        Process process = new ProcessBuilder("bash", "-e", "-c", commands)
            .directory(project.toFile()).redirectError(errors.toFile()).start();
        process.getOutputStream().close();
        List<String> lines = new String(process.getInputStream().readAllBytes()).lines().toList();
        return new Ended(process.waitFor(), lines, Files.readString(errors));
    }

    private String commandsWith(String name) {
        List<String> blocks = found("^```sh\\n(.*?)^```").stream().filter(block -> block.contains(name)).toList();
        Due.is("blocks of commands with " + name, blocks.size(), 1);
        return blocks.isEmpty() ? "false" : blocks.get(0);
    }

    private Ended runs(String name) throws IOException, InterruptedException {
        Ended ended = run(commandsWith(name));
        Due.is("exit code of " + name + " " + ended, ended.code(), 0);
        return ended;
    }

    private void exampleSaysWhatItPrints() throws IOException, InterruptedException {
        Due.says("prints, line by line, what its comments say ahead of the colon");
        List<String> programs = found("^```java\\n(.*?)^```");
        Due.is("programs", programs.size(), 1);
        Files.writeString(project.resolve("Example.java"), programs.get(0));
        List<String> said = found("System\\.out\\.println\\([^\\n]*\\); *// ([^:\\n]+): ");
        Due.is("each line printed is said", said.size(), found("(System\\.out\\.println)").size());
        List<String> printed = runs("Example").lines();
        Due.is("printed " + printed + ", said " + said, printed.equals(said), true);
    }

    private void commandsOfTestsRun() throws IOException, InterruptedException {
        Due.says("the commands which README.md names for the tests run as it says");
        Due.is("all blocks of commands", found("^(```sh)$").size(), 4);
        List<String> all = runs(".ci/run").lines();
        Set<String> tests = testsOf(shared);
        tests.add("FitTest");
        for (String test : tests) {
            Due.is("runs " + test + " " + all, all.contains("== " + test), true);
        }
        Due.is("how many passed " + all, all.get(all.size() - 1).equals(tests.size() + " passed, 0 failed"), true);
        List<String> own = runs("FitTest").lines();
        Due.is("how many answers " + own, own.get(own.size() - 1).matches("\\d+ answers, 0 wrong"), true);
        runs("WarpDeskRuns");
    }

    private void ciFailsWithAnyTest() throws IOException, InterruptedException {
        Due.says("it fails if one of them failed or does not compile");
        for (Path test : filesOf(shared)) {
            Files.delete(test);
        }
        Path own = project.resolve("src/test/java");
        Due.is("no test under ../shared/tests", run(".ci/run").code(), 1);
        ciEnds(shared, PASSES, 0);
        ciEnds(shared, FAILS, 1);
        ciEnds(shared, IS_NO_JAVA, 1);
        Files.writeString(shared.resolve("OtherRuns.java"), PASSES.formatted("OtherRuns"));
        ciEnds(own, FAILS, 1);
        ciEnds(own, IS_NO_JAVA, 1);
    }

    private void ciEnds(Path folder, String program, int code) throws IOException, InterruptedException {
        Path file = folder.resolve("AddedTest.java");
        Files.writeString(file, program.formatted("AddedTest"));
        Ended ended = run(".ci/run");
        Due.is(".ci/run with " + file + ": " + program + " " + ended, ended.code(), code);
        Files.delete(file);
    }
}

import java.io.IOException;
import java.lang.reflect.Method;
import java.lang.reflect.Modifier;
import java.nio.charset.StandardCharsets;
import java.nio.file.DirectoryStream;
import java.nio.file.Files;
import java.nio.file.Path;
import java.util.ArrayList;
import java.util.Collections;
import java.util.List;
import java.util.regex.Pattern;

/** What README.md says is so: its example, its commands and its lists. Runs in the project's folder. */
public final class ReadmeTest {
    private static final Due DUE = new Due("ReadmeTest");
    private static final String PROGRAM_BLOCK = "(?s)```java\n(.*?)```";
    private static final String COMMAND_BLOCK = "(?s)```sh\n(.*?)```";
    private static final String PRINTED_CALL = "println\\((.*)\\); *// (-?\\d+)\\b";

    public static void main(String[] args) throws IOException, InterruptedException {
        String readme = Files.readString(Path.of("README.md"));
        List<String> programs = found(PROGRAM_BLOCK, 1, readme);
        List<String> commands = found(COMMAND_BLOCK, 1, readme);
        DUE.equal("the number of programs in the README", programs.size(), 1);
        DUE.equal("the number of commands in the README", commands.size(), 2);
        if (programs.size() == 1 && commands.size() == 2) {
            Path folder = folderWith(programs.get(0));
            exampleAnswersAsItSays(programs.get(0), output(folder, commands.get(0)));
            oneTestRunsAlone(commands.get(1), output(folder, commands.get(1)));
            remove(folder);
        }
        listOfCalls(readme);
        listOfTests(readme);
        DUE.close();
    }

    private static List<String> found(String pattern, int group, String text) {
        return Pattern.compile(pattern).matcher(text).results().map(match -> match.group(group)).toList();
    }

    private static void exampleAnswersAsItSays(String program, List<String> printed) {
        List<String> calls = found(PRINTED_CALL, 1, program);
        List<String> answers = found(PRINTED_CALL, 2, program);
        DUE.equal("lines of the example that print", answers.size(), found("println", 0, program).size());
        DUE.equal("lines that the example printed", printed.size(), answers.size());
        for (int i = 0; i < answers.size() && i < printed.size(); i++) {
            DUE.holds(calls.get(i) + " is " + answers.get(i) + " as the README says, not " + printed.get(i),
                printed.get(i).equals(answers.get(i)));
        }
    }

    private static void oneTestRunsAlone(String commands, List<String> printed) throws IOException {
        String script = Files.readString(Path.of(".ci/run"));
        String compile = commands.substring(0, commands.indexOf(" out "));
        DUE.holds("the last command ran the test without a fault: " + printed,
            !printed.isEmpty() && printed.get(printed.size() - 1).endsWith(" 0 wrong"));
        DUE.holds(".ci/run compiles the tests by " + compile, script.contains(compile + " \"$built/project\""));
        DUE.holds(".ci/run can be run", Files.isExecutable(Path.of(".ci/run")));
    }

    // ---- the lists

    private static void listOfCalls(String readme) {
        String table = readme.substring(readme.indexOf("### The calls"), readme.indexOf("\n- "));
        List<String> methods = new ArrayList<>();
        for (Method method : EdgeCounterPlacer.class.getDeclaredMethods()) {
            if (Modifier.isPublic(method.getModifiers())) {
                methods.add(method.getName());
            }
        }
        sameNames("calls", found("`(\\w+)`", 1, table), methods);
    }

    private static void listOfTests(String readme) throws IOException {
        List<String> tests = new ArrayList<>();
        try (DirectoryStream<Path> files = Files.newDirectoryStream(Path.of("src/test/java"), "*Test.java")) {
            for (Path file : files) {
                tests.add(file.getFileName().toString().replace(".java", ""));
            }
        }
        sameNames("tests", found("(?m)^\\| `(\\w+Test)` \\|", 1, readme), tests);
    }

    private static void sameNames(String what, List<String> listed, List<String> standing) {
        List<String> sorted = new ArrayList<>(listed);
        Collections.sort(sorted);
        Collections.sort(standing);
        DUE.holds("the README lists the " + what + " " + standing + ", not " + sorted, sorted.equals(standing));
    }

    // ---- the folder in which the commands are run

    /** As the project's folder, but what the commands make there is not left in the project. */
    private static Path folderWith(String example) throws IOException {
        Path folder = Files.createTempDirectory("readme");
        Files.createSymbolicLink(folder.resolve("src"), Path.of("src").toAbsolutePath());
        Files.writeString(folder.resolve("Example.java"), example);
        return folder;
    }

    private static List<String> output(Path folder, String commands) throws IOException, InterruptedException {
        Process process = new ProcessBuilder("sh", "-e", "-c", commands).directory(folder.toFile())
            .redirectError(ProcessBuilder.Redirect.INHERIT).start();
        process.getOutputStream().close();
        String printed = new String(process.getInputStream().readAllBytes(), StandardCharsets.US_ASCII);
        DUE.equal("the exit code of " + commands, process.waitFor(), 0);
        return printed.lines().toList();
    }

    private static void remove(Path folder) throws IOException {
        List<Path> inside;
        try (var paths = Files.walk(folder)) {
            inside = new ArrayList<>(paths.toList());
        }
        Collections.reverse(inside);
        for (Path path : inside) {
            Files.delete(path);
        }
    }
}

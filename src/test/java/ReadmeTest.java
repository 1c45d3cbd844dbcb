import java.io.IOException;
import java.nio.file.Files;
import java.nio.file.Path;
import java.util.ArrayList;
import java.util.List;
import java.util.regex.Matcher;
import java.util.regex.Pattern;

/** README.md: its program gives the answers that stand beside it, its commands run, its table names the tests. */
public final class ReadmeTest {
    private static final Path TESTS = Path.of("src/test/java");

    public static void main(String[] args) throws IOException, InterruptedException {
        Readme readme = new Readme();
        Due.is("programs shown", readme.shown("java").size(), 1);
        Due.is("ways shown", readme.shown("sh").size(), 3);
        program(readme);
        oneTest(readme);
        tables(readme);
        Due.end("ReadmeTest");
    }

    private static void program(Readme readme) throws IOException, InterruptedException {
        String program = readme.shown("java").get(0);
        Shell shell = new Shell();
        shell.copy(Path.of("src/main"), "src/main");
        shell.write("Program.java", program);
        shell.run("", readme.wayToCompile());
        Due.is("exit code of " + readme.wayToCompile(), shell.exitCode, 0);
        List<String> due = answersBeside(program);
        same("README.md's program", String.join("\n", due) + "\n", shell.printed);
        Due.is("the program shows some answers", due.size() >= 15, true);
        Due.is("a FRACTION, a FAULT, a STATUS are among what it shows", program.contains(".top()")
            && program.contains(".bottom()") && program.contains(".fault(0)") && program.contains(".fault(1)")
            && program.contains(".status()"), true);
        shell.close();
    }

    /** Beside each line that prints stands the answer, up to a colon, if more is said of it. */
    private static List<String> answersBeside(String program) {
        List<String> answers = new ArrayList<>();
        Pattern beside = Pattern.compile("println\\(.*\\); +// ([^ :]+)(:.*)?$");
        for (String line : program.split("\n")) {
            Matcher m = beside.matcher(line);
            boolean told = m.find();
            Due.is("an answer beside " + line.trim(), told, line.contains("println"));
            if (told) {
                answers.add(m.group(1));
            }
        }
        return answers;
    }

    private static void oneTest(Readme readme) throws IOException, InterruptedException {
        Shell shell = new Shell();
        shell.copy(Path.of("src"), "src");
        shell.run("", readme.wayToTestOne());
        Due.is("exit code of " + readme.wayToTestOne() + shell.printed, shell.exitCode, 0);
        Due.is("it says what it did: " + shell.printed,
            shell.printed.startsWith("RandomRunsTest: 1000 runs, "), true);
        shell.close();
    }

    private static void tables(Readme readme) throws IOException {
        List<String> there = new ArrayList<>();
        try (var files = Files.newDirectoryStream(TESTS, "*Test.java")) {
            files.forEach(file -> there.add(file.getFileName().toString().replace(".java", "")));
        }
        List<String> told = new ArrayList<>(readme.table("test"));
        there.sort(null);
        told.sort(null);
        same("the tests in README.md's table", String.join(" ", there), String.join(" ", told));
        same("the STATUS in README.md's table", "1 2 3 4 5 6 7 8 9", String.join(" ", readme.table("STATUS")));
    }

    private static void same(String what, String due, String got) {
        Due.is(what + ": '" + got + "' is '" + due + "'", got.equals(due), true);
    }
}

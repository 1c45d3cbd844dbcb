import java.io.IOException;
import java.nio.file.Files;
import java.nio.file.Path;

/** The way to run all tests, as README.md shows it, in small projects of which one test passes or fails. */
public final class CiRunTest {
    private static final String PASSES = "public final class NAME { public static void main(String[] args) {"
        + " System.exit(new LikeRegistry().told(3) == 3 ? 0 : 1); } }";
    private static final String FAILS = PASSES.replace("== 3", "!= 3");
    private static final String THROWS = "public final class NAME { public static void main(String[] args) {"
        + " throw new IllegalStateException(\"as it should\"); } }";
    private static final String NO_JAVA = "public final class NAME {";
    private static final String HELPED = "public final class NAME { public static void main(String[] args) {"
        + " Helper.help(); } }";
    private static final String HELPER = "final class Helper { static void help() { } }";

    private final Shell shell = new Shell();
    private final String way = new Readme().wayToTest();

    private CiRunTest() throws IOException {
        shell.copy(Path.of(".ci"), "main/.ci");
        shell.copy(Path.of("src/main"), "main/src/main");
        shell.write("main/src/test/java/support/Helper.java", HELPER);
        shared("SharedRuns", PASSES);
        own("OwnTest", HELPED);
    }

    public static void main(String[] args) throws IOException, InterruptedException {
        Due.is("what README.md shows can be run", Files.isExecutable(Path.of(new Readme().wayToTest().trim())), true);
        CiRunTest t = new CiRunTest();
        t.lets("one test of each kind", true);
        t.passesElsewhere();
        t.fails();
        t.shell.close();
        Due.end("CiRunTest");
    }

    private void fails() throws IOException, InterruptedException {
        own("WrongTest", FAILS);
        lets("an own test with a wrong answer", false);
        own("WrongTest", THROWS);
        lets("an own test that throws", false);
        own("WrongTest", NO_JAVA);
        lets("an own test that can't be compiled", false);
        shell.delete("main/src/test/java/WrongTest.java");
        shared("AnyRuns", FAILS);
        lets("a shared test with a wrong answer, though one behind it passes", false);
        shared("AnyRuns", HELPED);
        lets("a shared test that leans on the project's helpers", false);
        shared("AnyRuns", PASSES);
        lets("another shared test that passes", true);
        shell.delete("shared/tests");
        lets("no shared tests", false);
    }

    /** It finds ../shared from where it lies, not from where it is called. */
    private void passesElsewhere() throws IOException, InterruptedException {
        shell.run("", "main/" + way);
        Due.is("called from beside the project", shell.exitCode, 0);
    }

    private void lets(String what, boolean pass) throws IOException, InterruptedException {
        shell.run("main", way);
        Due.is(what + " passes", shell.exitCode == 0, pass);
    }

    private void own(String name, String test) throws IOException {
        shell.write("main/src/test/java/" + name + ".java", test.replace("NAME", name));
    }

    private void shared(String name, String test) throws IOException {
        shell.write("shared/tests/" + name + ".java", test.replace("NAME", name));
    }
}

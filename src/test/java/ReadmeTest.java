import java.io.File;
import java.io.IOException;
import java.lang.reflect.Method;
import java.lang.reflect.Modifier;
import java.net.URL;
import java.net.URLClassLoader;
import java.nio.file.Files;
import java.nio.file.Path;
import java.util.List;
import java.util.regex.Matcher;
import java.util.regex.Pattern;
import javax.tools.JavaCompiler;
import javax.tools.ToolProvider;

/**
 * What README.md says: its examples are compiled as one program, in which each call is compared with the answer
 * that stands behind it. Run from the project's folder.
 */
public final class ReadmeTest {
    private static final Expect EXPECT = new Expect("readme");
    private static final Path README = Path.of("README.md");
    private static final Path FOLDER = Path.of("build/readme");
    private static final Pattern EXAMPLE = Pattern.compile("(?s)```java\n(.*?)```");
    private static final Pattern CALL = Pattern.compile("(x\\.(\\w+)\\(.*?\\));\\s*// (-?\\d+|[A-Z]+)(?:: .*)?");

    private final String readme;
    private final StringBuilder program = new StringBuilder();
    private final StringBuilder called = new StringBuilder(" write ");

    private ReadmeTest(String readme) {
        this.readme = readme;
    }

    public static void main(String[] args) throws Exception {
        ReadmeTest test = new ReadmeTest(Files.readString(README));
        test.collect();
        test.run();
        test.everyMethod();
        test.everyTest();
        test.theCommand();
        EXPECT.finish();
    }

    /** Called by the program that is made of the examples. */
    public static void due(String call, long got, long want) {
        EXPECT.due(call, got, want);
    }

    private void collect() {
        Matcher examples = EXAMPLE.matcher(readme);
        while (examples.find()) {
            for (String line : examples.group(1).split("\n")) {
                program.append(translated(line)).append('\n');
            }
        }
    }

    /** A line that begins with a call of x must tell its answer; others stay as they are. */
    private String translated(String line) {
        Matcher call = CALL.matcher(line);
        if (call.matches()) {
            called.append(call.group(2)).append(' ');
            String answer = call.group(3);
            String want = Character.isLetter(answer.charAt(0)) ? "ChargePosts." + answer : answer;
            return "ReadmeTest.due(\"" + call.group(1) + "\", " + call.group(1) + ", " + want + ");";
        }
        EXPECT.due("the answer behind " + line, line.startsWith("x.") ? 0 : 1, 1);
        return line;
    }

    private void run() throws Exception {
        EXPECT.part("the examples");
        Files.createDirectories(FOLDER);
        Path source = FOLDER.resolve("Shown.java");
        Files.writeString(source, "public final class Shown {\npublic static void main(String[] args) {\n"
                + program + "}\n}\n");
        JavaCompiler compiler = ToolProvider.getSystemJavaCompiler();
        int answer = compiler.run(null, null, null, "-encoding", "UTF-8", "-cp", System.getProperty("java.class.path"),
                "-d", FOLDER.toString(), source.toString());
        EXPECT.due("the answer of javac", answer, 0);
        if (answer == 0) {
            try (URLClassLoader loader = new URLClassLoader(new URL[] {FOLDER.toUri().toURL()})) {
                loader.loadClass("Shown").getMethod("main", String[].class).invoke(null, (Object) new String[0]);
            }
        }
    }

    private void everyMethod() {
        EXPECT.part("the methods");
        for (Method m : ChargePosts.class.getDeclaredMethods()) {
            if (Modifier.isPublic(m.getModifiers())) {
                EXPECT.due(m.getName() + " is shown", called.indexOf(" " + m.getName() + " ") >= 0 ? 1 : 0, 1);
            }
        }
    }

    private void everyTest() throws IOException {
        EXPECT.part("the tests");
        File[] files = new File("src/test/java").listFiles((folder, name) -> name.endsWith("Test.java"));
        List<File> tests = files == null ? List.of() : List.of(files);
        EXPECT.due("there are tests", tests.isEmpty() ? 0 : 1, 1);
        for (File test : tests) {
            String name = test.getName().replace(".java", "");
            EXPECT.due(name + " is named", readme.contains("`" + name + "`") ? 1 : 0, 1);
        }
    }

    private void theCommand() {
        EXPECT.part("the command");
        EXPECT.due(".ci/run is named", readme.contains("`.ci/run`") ? 1 : 0, 1);
        EXPECT.due(".ci/run can be run", Files.isExecutable(Path.of(".ci/run")) ? 1 : 0, 1);
    }
}

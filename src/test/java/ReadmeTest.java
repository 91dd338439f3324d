import java.io.ByteArrayOutputStream;
import java.io.PrintStream;
import java.net.URL;
import java.net.URLClassLoader;
import java.nio.file.Files;
import java.nio.file.Path;
import java.util.Set;
import java.util.TreeSet;
import java.util.regex.Matcher;
import java.util.regex.Pattern;
import java.util.stream.Stream;
import javax.tools.ToolProvider;

/** README.md is true of what lies in the project: its program, its tests, its command. */
public final class ReadmeTest {
    private static final Checks CHECKS = new Checks();
    private static final Path MAIN = Path.of("src/main/java/StepPurse.java");
    private static final Path TESTS = Path.of("src/test/java");

    public static void main(String[] args) throws Exception {
        String text = Files.readString(Path.of("README.md"));
        programPrintsWhatIsSaid(text);
        namesTheTests(text);
        commandIsThere(text);
        CHECKS.end();
    }

    /** The first block of that language, or of what it is called. */
    private static String block(String text, String language) {
        Matcher m = Pattern.compile("(?s)```" + language + "\n(.*?)```").matcher(text);
        return m.find() ? m.group(1) : "";
    }

    private static void programPrintsWhatIsSaid(String text) throws Exception {
        Path folder = Files.createTempDirectory("readme");
        try {
            Path program = Files.writeString(folder.resolve("Example.java"), block(text, "java"));
            int wrong = ToolProvider.getSystemJavaCompiler().run(null, null, null,
                "--release", "17", "-d", folder.toString(), MAIN.toString(), program.toString());
            CHECKS.due("compiling the program", wrong, 0);
            if (wrong == 0) {
                String said = block(text, "text");
                String printed = printedBy(folder);
                CHECKS.holds("something is printed", !said.isEmpty());
                CHECKS.holds("it prints what is said, not\n" + printed, printed.equals(said));
            }
        } finally {
            deleteAll(folder);
        }
    }

    private static String printedBy(Path folder) throws Exception {
        PrintStream screen = System.out;
        ByteArrayOutputStream bytes = new ByteArrayOutputStream();
        // No parent that knows the project's own classes: the program has to do with its folder.
        ClassLoader library = ClassLoader.getPlatformClassLoader();
        try (URLClassLoader loader = new URLClassLoader(new URL[] {folder.toUri().toURL()}, library)) {
            System.setOut(new PrintStream(bytes, true));
            loader.loadClass("Example").getMethod("main", String[].class)
                .invoke(null, (Object) new String[0]);
        } finally {
            System.setOut(screen);
        }
        return bytes.toString().replace("\r", "");
    }

    private static void deleteAll(Path folder) throws Exception {
        try (Stream<Path> files = Files.list(folder)) {
            for (Path file : files.toList()) {
                Files.delete(file);
            }
        }
        Files.delete(folder);
    }

    private static void namesTheTests(String text) throws Exception {
        Set<String> named = new TreeSet<>();
        Matcher m = Pattern.compile("`(\\w+Test)`").matcher(text);
        while (m.find()) {
            named.add(m.group(1));
        }
        Set<String> there = new TreeSet<>();
        try (Stream<Path> files = Files.list(TESTS)) {
            for (Path file : files.toList()) {
                String name = file.getFileName().toString();
                if (name.endsWith("Test.java")) {
                    there.add(name.substring(0, name.length() - ".java".length()));
                }
            }
        }
        CHECKS.holds("the tests are " + there + ", named are " + named, named.equals(there));
    }

    private static void commandIsThere(String text) {
        CHECKS.holds("the command", text.contains("```sh\n.ci/run\n```"));
        CHECKS.holds("may be run", Files.isExecutable(Path.of(".ci/run")));
        CHECKS.holds("the class is where it is said to be",
            text.contains("`" + MAIN + "`") && Files.isRegularFile(MAIN));
        CHECKS.holds("the document is where it is said to be",
            text.contains("`../shared/DOC.md`") && Files.isRegularFile(Path.of("../shared/DOC.md")));
    }
}

import java.io.File;
import java.io.IOException;
import java.lang.reflect.Method;
import java.lang.reflect.Modifier;
import java.nio.file.Files;
import java.nio.file.Path;
import java.nio.file.StandardCopyOption;
import java.util.TreeSet;
import java.util.regex.Matcher;
import java.util.regex.Pattern;

/**
 * What README.md says works as it is written: its example is put into the file that it names, its commands are run
 * one by one, and print what it says. It names each call of the class and each test.
 */
public final class ReadmeTest {
    private static final Path PLACE = Path.of("build/readme");
    private static final Path SOURCE = Path.of("src/main/java/Suffixshelf.java");
    private static final Path TESTS = Path.of("src/test/java");

    private final Script script = new Script("ReadmeTest");
    private final String readme;

    private ReadmeTest(String readme) {
        this.readme = readme;
    }

    public static void main(String[] args) throws IOException, InterruptedException {
        ReadmeTest test = new ReadmeTest(Files.readString(Path.of("README.md")));
        test.exampleWorks();
        test.callsAreNamed();
        test.testsAreNamed();
        test.script.end();
    }

    private void exampleWorks() throws IOException, InterruptedException {
        String use = section("How to use it");
        Files.createDirectories(PLACE.resolve(SOURCE).getParent());
        Files.copy(SOURCE, PLACE.resolve(SOURCE), StandardCopyOption.REPLACE_EXISTING);
        String file = found("into a file `(\\w+\\.java)`", use);
        Files.writeString(PLACE.resolve(file), found("(?s)```java\n(.*?)```", use));
        String due = indented(use, "\nIt prints:\n\n");
        String printed = "";
        for (String command : indented(use, "where this README stands:\n\n").split("\n")) {
            printed += output(command);
        }
        script.expect("the example of README.md", due, printed);
        script.expect("whether it prints anything", "false", String.valueOf(printed.isEmpty()));
    }

    private static String output(String command) throws IOException, InterruptedException {
        Process process = new ProcessBuilder("sh", "-c", command).directory(new File(PLACE.toString()))
            .redirectErrorStream(true).start();
        String printed = new String(process.getInputStream().readAllBytes());
        int code = process.waitFor();
        return code == 0 ? printed : printed + command + " ended with exit code " + code + "\n";
    }

    private void callsAreNamed() {
        TreeSet<String> face = new TreeSet<>();
        for (Method method : Suffixshelf.class.getDeclaredMethods()) {
            if (Modifier.isPublic(method.getModifiers())) {
                face.add(method.getName());
            }
        }
        String use = section("How to use it");
        String listed = use.substring(use.indexOf("\nAll calls"));
        script.expect("the calls that README.md names", face.toString(), named(listed, "`(\\w+)`").toString());
    }

    private void testsAreNamed() throws IOException {
        TreeSet<String> tests = new TreeSet<>();
        try (var files = Files.newDirectoryStream(TESTS, "*Test.java")) {
            for (Path file : files) {
                tests.add(file.getFileName().toString().replace(".java", ""));
            }
        }
        String run = section("How to run its tests");
        script.expect("the tests that README.md names", tests.toString(), named(run, "`(\\w+Test)`").toString());
        String command = indented(run, "How to run its tests\n\n").strip();
        script.expect("how to run them", "bash .ci/run", command);
        script.expect("whether that can be run", "true", String.valueOf(Files.isExecutable(Path.of(".ci/run"))));
    }

    private String section(String title) {
        int from = readme.indexOf("\n## " + title + "\n");
        int to = readme.indexOf("\n## ", from + 1);
        return from < 0 ? "" : readme.substring(from, to < 0 ? readme.length() : to);
    }

    /** The indented lines behind these words, without what they are indented by. */
    private static String indented(String text, String ahead) {
        return found("(?s)" + Pattern.quote(ahead) + "((?:    [^\n]*\n)+)", text).replaceAll("(?m)^    ", "");
    }

    private static String found(String pattern, String text) {
        Matcher matcher = Pattern.compile(pattern).matcher(text);
        return matcher.find() ? matcher.group(1) : "";
    }

    private static TreeSet<String> named(String text, String pattern) {
        TreeSet<String> names = new TreeSet<>();
        Matcher matcher = Pattern.compile(pattern).matcher(text);
        while (matcher.find()) {
            names.add(matcher.group(1));
        }
        return names;
    }
}

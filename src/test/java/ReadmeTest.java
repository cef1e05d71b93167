import java.io.ByteArrayOutputStream;
import java.io.IOException;
import java.io.PrintStream;
import java.net.URL;
import java.net.URLClassLoader;
import java.nio.charset.StandardCharsets;
import java.nio.file.Files;
import java.nio.file.Path;
import java.util.ArrayList;
import java.util.List;
import javax.tools.JavaCompiler;
import javax.tools.ToolProvider;

/** The example of README.md compiles and prints what its text beside it says; README.md names every test. */
public final class ReadmeTest {
    private static final Path README = Path.of("README.md");
    private static final Path TESTS = Path.of("src", "test", "java");
    private static final Check CHECK = new Check();

    public static void main(String[] args) throws Exception {
        List<String> example = example();
        List<String> due = due(example);
        CHECK.is("lines of the example that print", due.size() > 20, true);
        CHECK.is("each of them has its text", due.size(), printing(example));
        CHECK.text("what the example prints", String.join("\n", printed(example)), String.join("\n", due));
        everyTestIsNamed();
        CHECK.end();
    }

    /** The lines between ```java and ```, of which README.md has one pair. */
    private static List<String> example() throws IOException {
        List<String> lines = Files.readAllLines(README);
        int begin = lines.indexOf("```java");
        CHECK.is("one example", begin, lines.lastIndexOf("```java"));
        List<String> example = new ArrayList<>();
        for (int k = begin + 1; k < lines.size() && !lines.get(k).equals("```"); k++) {
            example.add(lines.get(k));
        }
        return example;
    }

    private static int printing(List<String> example) {
        int count = 0;
        for (String line : example) {
            count += line.contains("System.out.println(") ? 1 : 0;
        }
        return count;
    }

    /** What stands beside the lines that print, up to the colon. */
    private static List<String> due(List<String> example) {
        List<String> due = new ArrayList<>();
        for (String line : example) {
            int text = line.indexOf("// ");
            int colon = line.indexOf(": ", text);
            if (line.contains("System.out.println(") && text >= 0 && colon >= 0) {
                due.add(line.substring(text + 3, colon));
            }
        }
        return due;
    }

    private static List<String> printed(List<String> example) throws Exception {
        Path directory = Files.createTempDirectory("readme");
        Path source = directory.resolve("Example.java");
        Path made = directory.resolve("Example.class");
        try {
            Files.write(source, example);
            JavaCompiler compiler = ToolProvider.getSystemJavaCompiler();
            int failed = compiler.run(null, null, null, "-Xlint:all", "-Werror", "-cp",
                System.getProperty("java.class.path"), "-d", directory.toString(), source.toString());
            CHECK.is("javac", failed, 0);
            return failed == 0 ? run(directory) : List.of();
        } finally {
            Files.deleteIfExists(source);
            Files.deleteIfExists(made);
            Files.deleteIfExists(directory);
        }
    }

    private static List<String> run(Path directory) throws Exception {
        ByteArrayOutputStream bytes = new ByteArrayOutputStream();
        PrintStream before = System.out;
        try (URLClassLoader loader = new URLClassLoader(new URL[] {directory.toUri().toURL()})) {
            System.setOut(new PrintStream(bytes, true, StandardCharsets.UTF_8));
            loader.loadClass("Example").getMethod("main", String[].class).invoke(null, (Object) new String[0]);
        } finally {
            System.setOut(before);
        }
        return bytes.toString(StandardCharsets.UTF_8).lines().toList();
    }

    private static void everyTestIsNamed() throws IOException {
        String readme = Files.readString(README);
        try (var files = Files.list(TESTS)) {
            for (Path file : files.toList()) {
                String name = file.getFileName().toString().replace(".java", "");
                CHECK.is("README.md names " + name, readme.contains("`" + name + "`"), true);
            }
        }
    }

    private ReadmeTest() {
    }
}

import java.io.IOException;
import java.lang.reflect.InvocationTargetException;
import java.net.URL;
import java.net.URLClassLoader;
import java.nio.file.Files;
import java.nio.file.Path;
import java.util.Comparator;
import java.util.List;
import java.util.regex.Matcher;
import java.util.regex.Pattern;
import java.util.stream.Stream;
import javax.tools.ToolProvider;

/** README.md's example is compiled and run: each int in it has the value that stands behind it. */
public final class ReadmeTest {
    private static final Pattern TOLD = Pattern.compile("int (\\w+) = .*; *// (-?\\d+)$");

    private ReadmeTest() {
    }

    public static void main(String[] args) throws IOException, ReflectiveOperationException {
        Path directory = Files.createTempDirectory("readme");
        try {
            run(directory, program());
        } finally {
            delete(directory);
        }
        Due.end();
    }

    /** The first Java block, with a line behind each told int that holds it against what is told. */
    private static String program() throws IOException {
        List<String> lines = Files.readAllLines(Path.of("README.md"));
        int from = lines.indexOf("```java") + 1;
        int told = 0;
        StringBuilder text = new StringBuilder("public class Example { public static int wrong() {\nint wrong = 0;\n");
        for (int i = from; from > 0 && !lines.get(i).equals("```"); i++) {
            text.append(lines.get(i)).append('\n');
            Matcher matcher = TOLD.matcher(lines.get(i));
            if (matcher.find()) {
                told++;
                text.append("wrong += ").append(matcher.group(1)).append(" == ").append(matcher.group(2));
                text.append(" ? 0 : 1;\n");
            }
        }
        Due.same("README.md tells answers", told > 0 ? "some" : "none", "some");
        return text.append("return wrong; } }\n").toString();
    }

    private static void run(Path directory, String program) throws IOException, ReflectiveOperationException {
        Path file = directory.resolve("Example.java");
        Files.writeString(file, program);
        int problems = ToolProvider.getSystemJavaCompiler().run(null, null, null,
                "-cp", System.getProperty("java.class.path"), "-d", directory.toString(), file.toString());
        Due.is("problems of compiling README.md's example", () -> problems, 0);
        if (problems == 0) {
            Due.is("answers that README.md tells wrongly", () -> wrong(directory), 0);
        }
    }

    private static int wrong(Path directory) {
        try (URLClassLoader loader = new URLClassLoader(new URL[] {directory.toUri().toURL()})) {
            return (int) loader.loadClass("Example").getMethod("wrong").invoke(null);
        } catch (InvocationTargetException e) {
            throw new IllegalStateException("the example throws", e.getCause());
        } catch (IOException | ReflectiveOperationException e) {
            throw new IllegalStateException(e);
        }
    }

    private static void delete(Path directory) throws IOException {
        try (Stream<Path> paths = Files.walk(directory)) {
            for (Path path : paths.sorted(Comparator.reverseOrder()).toList()) {
                Files.delete(path);
            }
        }
    }
}

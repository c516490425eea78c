import java.io.ByteArrayOutputStream;
import java.io.IOException;
import java.io.PrintStream;
import java.net.URL;
import java.net.URLClassLoader;
import java.nio.charset.StandardCharsets;
import java.nio.file.Files;
import java.nio.file.Path;
import javax.tools.ToolProvider;

/** The example of README.md compiles and prints what stands there; its tables name all codes and methods. */
public final class ReadmeTest {
    public static void main(String[] args) throws IOException, ReflectiveOperationException {
        String readme = Files.readString(Path.of("README.md"));
        String program = block(readme, "```java\n");
        String want = block(readme, "```text\n");
        Check.due("what the example prints", run(program), want);
        methods(readme);
        codes(readme);
        Check.end();
    }

    private static String block(String readme, String opening) {
        int from = readme.indexOf(opening) + opening.length();
        return readme.substring(from, readme.indexOf("```", from));
    }

    private static String run(String program) throws IOException, ReflectiveOperationException {
        Path directory = Files.createTempDirectory("readme");
        Path file = directory.resolve("Example.java");
        Files.writeString(file, program);
        int code = ToolProvider.getSystemJavaCompiler().run(null, null, null, "--release", "17", "-cp",
            System.getProperty("java.class.path"), "-d", directory.toString(), file.toString());
        Check.due("compiling the example", code, 0);
        PrintStream out = System.out;
        ByteArrayOutputStream printed = new ByteArrayOutputStream();
        try (URLClassLoader loader = new URLClassLoader(new URL[] {directory.toUri().toURL()})) {
            System.setOut(new PrintStream(printed, true, StandardCharsets.UTF_8));
            Object none = new String[0];
            loader.loadClass("Example").getMethod("main", String[].class).invoke(null, none);
        } finally {
            System.setOut(out);
            remove(directory);
        }
        return printed.toString(StandardCharsets.UTF_8).replace(System.lineSeparator(), "\n");
    }

    private static void remove(Path directory) throws IOException {
        try (var files = Files.list(directory)) {
            for (Path file : files.toList()) {
                Files.delete(file);
            }
        }
        Files.delete(directory);
    }

    private static void methods(String readme) {
        for (var method : PhaseReader.class.getDeclaredMethods()) {
            boolean isPublic = java.lang.reflect.Modifier.isPublic(method.getModifiers());
            String call = "| `" + method.getReturnType() + " " + method.getName() + "(";
            Check.due("README has a row " + call, readme.contains(call), isPublic);
        }
    }

    private static void codes(String readme) throws ReflectiveOperationException {
        for (var field : PhaseReader.class.getFields()) {
            String row = "| " + field.get(null) + " | `" + field.getName() + "` |";
            Check.due("README has a row " + row, readme.contains(row), true);
        }
    }
}

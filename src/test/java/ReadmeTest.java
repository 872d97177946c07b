import java.io.ByteArrayOutputStream;
import java.io.IOException;
import java.io.PrintStream;
import java.net.URL;
import java.net.URLClassLoader;
import java.nio.file.Files;
import java.nio.file.Path;
import javax.tools.ToolProvider;

/** README.md: its example compiles, runs and prints what stands below it. */
public final class ReadmeTest {
    private static final Checks checks = new Checks("ReadmeTest");

    public static void main(String[] args) throws IOException, ReflectiveOperationException {
        String readme = Files.readString(Path.of("README.md"));
        Path folder = Files.createTempDirectory("readme");
        Path source = folder.resolve("Example.java");
        Path compiled = folder.resolve("Example.class");
        try {
            Files.writeString(source, "public class Example { public static void main(String[] args) {\n"
                    + block(readme, "java") + "} }\n");
            int failed = ToolProvider.getSystemJavaCompiler().run(null, null, null, "-d", folder.toString(), "-cp",
                    System.getProperty("java.class.path"), source.toString());
            checks.that("the example does not compile", failed == 0);
            if (failed == 0) {
                checks.same("the example", block(readme, "text"), printed(folder));
            }
        } finally {
            Files.deleteIfExists(compiled);
            Files.deleteIfExists(source);
            Files.deleteIfExists(folder);
        }
        checks.end();
    }

    private static String block(String readme, String language) {
        String opening = "```" + language + "\n";
        int start = readme.indexOf(opening);
        int end = readme.indexOf("```", start + opening.length());
        return start < 0 || end < 0 ? "" : readme.substring(start + opening.length(), end);
    }

    private static String printed(Path folder) throws IOException, ReflectiveOperationException {
        PrintStream before = System.out;
        ByteArrayOutputStream bytes = new ByteArrayOutputStream();
        try (URLClassLoader loader = new URLClassLoader(new URL[] {folder.toUri().toURL()})) {
            System.setOut(new PrintStream(bytes, true));
            loader.loadClass("Example").getMethod("main", String[].class).invoke(null, (Object) new String[0]);
        } finally {
            System.setOut(before);
        }
        return bytes.toString().replace(System.lineSeparator(), "\n");
    }
}

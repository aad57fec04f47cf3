import java.io.ByteArrayOutputStream;
import java.io.IOException;
import java.io.PrintStream;
import java.net.URL;
import java.net.URLClassLoader;
import java.nio.charset.StandardCharsets;
import java.nio.file.Files;
import java.nio.file.Path;
import java.util.Comparator;
import java.util.List;
import java.util.stream.Stream;
import javax.tools.ToolProvider;

/** The program in README.md compiles, and prints what README.md says. */
public final class ReadmeTest {
    private static final Path README = Path.of("README.md");

    public static void main(String[] args) throws IOException, ReflectiveOperationException {
        String readme = Files.readString(README).replace("\r\n", "\n");
        Path folder = Files.createTempDirectory("readme");
        try {
            Path source = folder.resolve("Example.java");
            Files.writeString(source, block(readme, "java"));
            int failed = ToolProvider.getSystemJavaCompiler().run(null, null, null,
                "-cp", System.getProperty("java.class.path"), "-d", folder.toString(), source.toString());
            Check.due("the program in README.md compiles", failed, 0);
            if (failed == 0) {
                String printed = printed(folder);
                Check.due("the program in README.md prints what stands there, not\n" + printed, printed.equals(block(readme, "text")), true);
            }
        } finally {
            remove(folder);
        }
        Check.finish("ReadmeTest");
    }

    /** The first block of this kind. */
    private static String block(String text, String kind) {
        String opening = "```" + kind + "\n";
        int start = text.indexOf(opening);
        int end = text.indexOf("```", start + opening.length());
        Check.due("README.md has a block of " + kind, start >= 0 && end >= 0, true);
        return start < 0 || end < 0 ? "" : text.substring(start + opening.length(), end);
    }

    private static String printed(Path folder) throws IOException, ReflectiveOperationException {
        ByteArrayOutputStream bytes = new ByteArrayOutputStream();
        PrintStream out = System.out;
        try (URLClassLoader loader = new URLClassLoader(new URL[] {folder.toUri().toURL()})) {
            System.setOut(new PrintStream(bytes, true, StandardCharsets.UTF_8));
            loader.loadClass("Example").getMethod("main", String[].class).invoke(null, (Object) new String[0]);
        } finally {
            System.setOut(out);
        }
        return bytes.toString(StandardCharsets.UTF_8).replace("\r\n", "\n");
    }

    private static void remove(Path folder) throws IOException {
        List<Path> paths;
        try (Stream<Path> walk = Files.walk(folder)) {
            paths = walk.sorted(Comparator.reverseOrder()).toList();
        }
        for (Path path : paths) {
            Files.delete(path);
        }
    }
}

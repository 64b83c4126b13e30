import java.io.ByteArrayOutputStream;
import java.io.IOException;
import java.io.PrintStream;
import java.net.URI;
import java.net.URL;
import java.net.URLClassLoader;
import java.nio.charset.StandardCharsets;
import java.nio.file.Files;
import java.nio.file.Path;
import java.util.List;
import javax.tools.JavaCompiler;
import javax.tools.JavaFileObject;
import javax.tools.SimpleJavaFileObject;
import javax.tools.ToolProvider;

/** README.md: the program that it gives compiles as it stands there and prints what is said. */
public final class ReadmeTest {
    private static final String NAME = "FromReadme";

    public static void main(String[] args) throws Exception {
        String readme = Files.readString(Path.of("README.md"));
        Checks.due("what the program in README.md prints", printed(block(readme, "java")), block(readme, "text"));
        Checks.end();
    }

    /** What stands in the first fenced block of a language. */
    private static String block(String readme, String language) {
        String fence = "```" + language + "\n";
        int from = readme.indexOf(fence) + fence.length();
        return readme.substring(from, readme.indexOf("```", from));
    }

    private static String printed(String lines) throws Exception {
        Path built = Files.createTempDirectory("readme");
        Path compiled = built.resolve(NAME + ".class");
        PrintStream before = System.out;
        ByteArrayOutputStream bytes = new ByteArrayOutputStream();
        try {
            if (!compiles(lines, built)) {
                return "nothing: it does not compile";
            }
            try (URLClassLoader loader = new URLClassLoader(new URL[] {built.toUri().toURL()})) {
                System.setOut(new PrintStream(bytes, true, StandardCharsets.UTF_8));
                loader.loadClass(NAME).getMethod("main", String[].class).invoke(null, (Object) new String[0]);
            }
        } finally {
            System.setOut(before);
            Files.deleteIfExists(compiled);
            Files.delete(built);
        }
        return bytes.toString(StandardCharsets.UTF_8);
    }

    private static boolean compiles(String lines, Path built) throws IOException {
        String program = "public class " + NAME + " { public static void main(String[] args) {\n" + lines + "} }";
        JavaFileObject source = new SimpleJavaFileObject(URI.create(NAME + ".java"), JavaFileObject.Kind.SOURCE) {
            @Override
            public CharSequence getCharContent(boolean ignoreEncodingErrors) {
                return program;
            }
        };
        JavaCompiler compiler = ToolProvider.getSystemJavaCompiler();
        List<String> options = List.of("-d", built.toString(), "-cp", System.getProperty("java.class.path"));
        return compiler.getTask(null, null, null, options, null, List.of(source)).call();
    }
}

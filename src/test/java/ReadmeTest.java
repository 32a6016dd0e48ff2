import java.net.URI;
import java.net.URL;
import java.net.URLClassLoader;
import java.nio.file.Files;
import java.nio.file.Path;
import java.util.List;
import java.util.regex.Pattern;
import javax.tools.JavaFileObject;
import javax.tools.SimpleJavaFileObject;
import javax.tools.ToolProvider;

/** README.md's examples, run one after the other: each call answers what stands behind it. */
final class ReadmeTest {
    private static final Pattern ANSWERED = Pattern.compile("(?m)^(.*\\));\\s*// ('.'|\\d+).*$");

    private ReadmeTest() {
    }

    static void run(Path readme) throws Exception {
        Check.promise(0);
        StringBuilder calls = new StringBuilder();
        String[] parts = Files.readString(readme).split("```");
        for (int part = 1; part < parts.length; part += 2) {
            calls.append(parts[part].replaceFirst("java", ""));
        }
        String checked = ANSWERED.matcher(calls).replaceAll("if ($1 != $2) { wrong.append(\"$1 \"); }");
        Check.holds("answers in README.md", ANSWERED.matcher(calls).results().count() >= 5);
        Check.equal("README.md's calls with other answers", "", answer("public final class Examples implements"
                + " java.util.function.Supplier<String> { public String get() { StringBuilder wrong ="
                + " new StringBuilder();\n" + checked + "return wrong.toString(); } }"));
    }

    private static Object answer(String source) throws Exception {
        Path directory = Files.createTempDirectory("readme");
        Path compiled = directory.resolve("Examples.class");
        boolean isCompiled = ToolProvider.getSystemJavaCompiler().getTask(null, null, null,
                List.of("-d", directory.toString(), "-cp", System.getProperty("java.class.path")), null,
                List.of(file(source))).call();
        Check.holds("README.md's examples compiling", isCompiled);
        if (!isCompiled) {
            Files.delete(directory);
            return "";
        }
        try (URLClassLoader loader = new URLClassLoader(new URL[] {directory.toUri().toURL()})) {
            Class<?> examples = loader.loadClass("Examples");
            return ((java.util.function.Supplier<?>) examples.getDeclaredConstructor().newInstance()).get();
        } finally {
            Files.delete(compiled);
            Files.delete(directory);
        }
    }

    private static JavaFileObject file(String source) {
        return new SimpleJavaFileObject(URI.create("string:///Examples.java"), JavaFileObject.Kind.SOURCE) {
            @Override
            public CharSequence getCharContent(boolean ignoreErrors) {
                return source;
            }
        };
    }
}

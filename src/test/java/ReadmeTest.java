import java.io.IOException;
import java.lang.reflect.Modifier;
import java.net.URL;
import java.net.URLClassLoader;
import java.nio.file.Files;
import java.nio.file.Path;
import java.util.regex.Matcher;
import java.util.regex.Pattern;
import javax.tools.ToolProvider;

/** Runs the example of README.md, and names the methods of the class that README.md leaves out. */
public final class ReadmeTest {
    private static final Path README = Path.of("README.md");
    private static final Pattern EXAMPLE = Pattern.compile("(?s)```java\n(.*?)```");
    /** A call with the answer that is due behind it. */
    private static final Pattern ANSWERED = Pattern.compile("(?m)^(s\\..*);\\s*// (-?\\d+).*$");
    private static final Check CHECK = new Check();

    public static void main(String[] args) throws Exception {
        String text = Files.readString(README);
        for (var method : SwitchLevelSimulator.class.getDeclaredMethods()) {
            if (Modifier.isPublic(method.getModifiers())) {
                CHECK.holds("README.md names " + method.getName(), text.contains("`" + method.getName() + "`"));
            }
        }
        Matcher example = EXAMPLE.matcher(text);
        CHECK.holds("README.md has an example", example.find());
        runExample(example.group(1));
        CHECK.finish();
    }

    /** The example calls this for each of its answers. */
    public static void due(String call, int got, int want) {
        CHECK.due(call, got, want);
    }

    private static void runExample(String code) throws Exception {
        Matcher answers = ANSWERED.matcher(code);
        CHECK.holds("answers stand behind the calls", answers.find());
        String asking = answers.replaceAll("ReadmeTest.due(\"$1\", $1, $2);");
        String program = "public class ReadmeExample { public static void run() {\n" + asking + "} }\n";
        Path directory = Files.createTempDirectory("readme");
        try {
            compile(directory, program);
            try (var loader = new URLClassLoader(new URL[] {directory.toUri().toURL()})) {
                loader.loadClass("ReadmeExample").getMethod("run").invoke(null);
            }
        } finally {
            removeAll(directory);
        }
    }

    private static void compile(Path directory, String program) throws IOException {
        Path file = Files.writeString(directory.resolve("ReadmeExample.java"), program);
        int code = ToolProvider.getSystemJavaCompiler().run(null, null, null,
                "-cp", System.getProperty("java.class.path"), "-d", directory.toString(), file.toString());
        CHECK.due("compiling the example", code, 0);
    }

    private static void removeAll(Path directory) throws IOException {
        try (var files = Files.list(directory)) {
            for (Path file : files.toList()) {
                Files.delete(file);
            }
        }
        Files.delete(directory);
    }
}

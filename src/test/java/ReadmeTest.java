import java.io.IOException;
import java.lang.reflect.Method;
import java.net.URL;
import java.net.URLClassLoader;
import java.nio.charset.StandardCharsets;
import java.nio.file.Files;
import java.nio.file.Path;
import java.util.regex.Matcher;
import java.util.regex.Pattern;
import java.util.stream.Stream;
import javax.tools.ToolProvider;

/** The example of README.md, compiled and run as it stands there: its comments tell the answers. */
public final class ReadmeTest {
    private static final Pattern EXAMPLE = Pattern.compile("(?s)```java\n(.*?)```");
    private static final Pattern ANSWERED = Pattern.compile("(choir\\.\\w+\\(.*?\\)); +// (-?\\d+)\\b.*");

    private ReadmeTest() {
    }

    public static void main(String[] args) throws IOException, ReflectiveOperationException {
        Matcher example = EXAMPLE.matcher(Files.readString(Path.of("README.md"), StandardCharsets.UTF_8));
        Check.holds("README.md has an example", example.find());
        run(asked(example.group(1)));
        Check.end();
    }

    private static String asked(String example) {
        StringBuilder code = new StringBuilder("public final class Example { public static void run() {\n");
        int answers = 0;
        for (String line : example.split("\n")) {
            Matcher answered = ANSWERED.matcher(line);
            if (answered.matches()) {
                String call = answered.group(1);
                line = "ReadmeTest.due(\"" + call + "\", " + call + ", " + answered.group(2) + ");";
                answers++;
            }
            code.append(line).append('\n');
        }
        Check.holds("the example tells answers", answers > 0);
        return code.append("} }\n").toString();
    }

    /** Public, since the example is another class loader's class and has no way to Check. */
    public static void due(String call, int got, int want) {
        Check.due(call, got, want);
    }

    private static void run(String code) throws IOException, ReflectiveOperationException {
        Path room = Files.createTempDirectory("readme");
        try {
            Path file = Files.writeString(room.resolve("Example.java"), code);
            int failed = ToolProvider.getSystemJavaCompiler().run(null, null, null, "-cp",
                System.getProperty("java.class.path"), "-d", room.toString(), file.toString());
            Check.due("compiling the example", failed, 0);
            if (failed == 0) {
                try (URLClassLoader loader = new URLClassLoader(new URL[] {room.toUri().toURL()})) {
                    Method example = loader.loadClass("Example").getMethod("run");
                    example.invoke(null);
                }
            }
        } finally {
            try (Stream<Path> left = Files.list(room)) {
                for (Path each : left.toArray(Path[]::new)) {
                    Files.delete(each);
                }
            }
            Files.delete(room);
        }
    }
}

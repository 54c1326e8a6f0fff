import java.io.IOException;
import java.net.URL;
import java.net.URLClassLoader;
import java.nio.file.Files;
import java.nio.file.Path;
import java.util.Comparator;
import java.util.List;
import java.util.Set;
import java.util.TreeSet;
import java.util.regex.Matcher;
import java.util.regex.Pattern;
import java.util.stream.Stream;
import javax.tools.ToolProvider;

/** The example in README.md: it compiles as it stands there, and each call answers what stands behind it. */
public final class ReadmeTest {
    private static final Due DUE = new Due("ReadmeTest");
    private static final Pattern BLOCK = Pattern.compile("(?s)```java\n(.*?)```");
    private static final Pattern CALL = Pattern.compile("(x\\.(\\w+)\\(.*\\)); +// (true|false|-?\\d+)\\b.*");

    public static void main(String[] args) throws IOException, ReflectiveOperationException {
        List<String> blocks = BLOCK.matcher(Files.readString(Path.of("README.md"))).results().map(m -> m.group(1)).toList();
        DUE.is("README.md has a function and an example", blocks.size(), 2);
        if (blocks.size() == 2) {
            run(program(blocks.get(0), blocks.get(1)));
        }
        DUE.end();
    }

    /** Called by the program that is made of README.md. */
    public static void answered(String call, Object got, String want) {
        DUE.is(call + " answered " + got + ", README.md says " + want, String.valueOf(got).equals(want), true);
    }

    private static String program(String function, String example) {
        Set<String> called = new TreeSet<>();
        StringBuilder body = new StringBuilder();
        for (String line : example.split("\n")) {
            Matcher call = CALL.matcher(line);
            if (call.matches()) {
                called.add(call.group(2));
                String quoted = call.group(1).replace("\\", "\\\\").replace("\"", "\\\"");
                body.append("ReadmeTest.answered(\"").append(quoted).append("\", ").append(call.group(1));
                body.append(", \"").append(call.group(3)).append("\");\n");
            } else {
                DUE.is("in README.md a call without its answer: " + line, line.contains("x."), false);
                body.append(line).append('\n');
            }
        }
        DUE.is("README.md shows calls of many kinds", called.size() >= 20, true);
        return "public class Example {\n" + function + "public static void main(String[] args) {\n" + body + "}\n}\n";
    }

    private static void run(String program) throws IOException, ReflectiveOperationException {
        Path place = Files.createTempDirectory("readme");
        Path source = Files.writeString(place.resolve("Example.java"), program);
        String classes = System.getProperty("java.class.path");
        int errors = ToolProvider.getSystemJavaCompiler().run(null, null, null,
            "-encoding", "UTF-8", "-cp", classes, "-d", place.toString(), source.toString());
        DUE.is("the example of README.md compiles", errors, 0);
        if (errors == 0) {
            try (URLClassLoader loader = new URLClassLoader(new URL[] {place.toUri().toURL()})) {
                loader.loadClass("Example").getMethod("main", String[].class).invoke(null, (Object) new String[0]);
            }
        }
        try (Stream<Path> made = Files.walk(place)) {
            made.sorted(Comparator.reverseOrder()).forEach(path -> path.toFile().delete());
        }
    }
}

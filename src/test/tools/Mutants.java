import java.io.File;
import java.io.IOException;
import java.io.OutputStream;
import java.nio.file.Files;
import java.nio.file.Path;
import java.util.ArrayList;
import java.util.Comparator;
import java.util.List;
import java.util.concurrent.ExecutorService;
import java.util.concurrent.Executors;
import java.util.concurrent.TimeUnit;
import java.util.concurrent.atomic.AtomicInteger;
import java.util.regex.Matcher;
import java.util.regex.Pattern;
import java.util.stream.Stream;
import javax.tools.ToolProvider;

/**
 * Breaks the class at one place after another and tells which breaks a test does not notice. From the project's directory:
 * "java src/test/tools/Mutants.java tests EdgesTest [first line] [last line]", where the directory tests has the compiled
 * tests. It takes minutes, so .ci/run leaves it out.
 */
public final class Mutants {
    private static final Path SOURCE = Path.of("src/main/java/YearFigures.java");
    private static final int SECONDS = 30;
    private static final String[][] CHANGES = {
        {" <= ", " < "}, {" < ", " <= "}, {" >= ", " > "}, {" > ", " >= "}, {" == ", " != "}, {" != ", " == "}, {" && ", " || "},
        {" \\|\\| ", " && "}, {" \\+ ", " - "}, {" - ", " + "}, {" \\* ", " + "}, {" / ", " * "}, {" % ", " / "}, {"\\+\\+", "--"},
        {"--", "++"}, {" \\+= ", " -= "}, {" -= ", " += "}, {"\\btrue\\b", "false"}, {"\\bfalse\\b", "true"},
        {"Math\\.max", "Math.min"}, {"Math\\.min", "Math.max"}, {"(?<=[( ])!(?=[a-zA-Z(])", ""}, {" \\|= ", " &= "},
        {" << ", " >> "}, {" >> ", " << "}, {" & ", " | "}, {" \\| ", " & "}};

    private final List<String> lines;
    private final String tests;
    private final String test;
    private final List<String[]> mutants = new ArrayList<>();
    private final AtomicInteger noticed = new AtomicInteger();
    private final AtomicInteger unnoticed = new AtomicInteger();

    private Mutants(List<String> lines, String tests, String test) {
        this.lines = lines;
        this.tests = tests;
        this.test = test;
    }

    public static void main(String[] args) throws IOException, InterruptedException {
        Mutants all = new Mutants(Files.readAllLines(SOURCE), args[0], args[1]);
        int first = args.length > 2 ? Integer.parseInt(args[2]) : 1;
        int last = args.length > 3 ? Integer.parseInt(args[3]) : all.lines.size();
        for (int i = first - 1; i < last; i++) {
            String line = all.lines.get(i).trim();
            if (!line.startsWith("*") && !line.startsWith("/") && !line.startsWith("import")) {
                all.changeSigns(i);
                all.changeNumbers(i);
                all.changeWhole(i);
            }
        }
        all.runAll();
    }

    private void add(int at, String line) {
        mutants.add(new String[] {"" + at, line});
    }

    private void changeSigns(int at) {
        String line = lines.get(at);
        for (String[] change : CHANGES) {
            Matcher found = Pattern.compile(change[0]).matcher(line);
            while (found.find()) {
                add(at, line.substring(0, found.start()) + change[1] + line.substring(found.end()));
            }
        }
    }

    private void changeNumbers(int at) {
        String line = lines.get(at);
        Matcher found = Pattern.compile("(?<![\\w'.])\\d+(?![\\w'])").matcher(line);
        while (found.find()) {
            for (int by = -1; by <= 1; by += 2) {
                long changed = Long.parseLong(found.group()) + by;
                if (changed >= 0) {
                    add(at, line.substring(0, found.start()) + changed + line.substring(found.end()));
                }
            }
        }
    }

    private void changeWhole(int at) {
        String line = lines.get(at).trim();
        if (line.matches("[a-zA-Z.\\[\\]]+(\\(.*\\)|\\+\\+|--| [-+|]?= .*);") && !line.startsWith("return")) {
            add(at, "");
        }
        if (line.startsWith("return ") && !line.matches("return (-?\\d+|true|false|NONE|CANT);")) {
            add(at, "return 0;");
        }
    }

    private void runAll() throws InterruptedException {
        ExecutorService pool = Executors.newFixedThreadPool(Runtime.getRuntime().availableProcessors());
        for (String[] mutant : mutants) {
            pool.submit(() -> {
                run(Integer.parseInt(mutant[0]), mutant[1]);
                return null;
            });
        }
        pool.shutdown();
        pool.awaitTermination(1, TimeUnit.DAYS);
        System.out.println(noticed + " breaks noticed, " + unnoticed + " not, " + mutants.size() + " made (the others do not compile)");
    }

    private void run(int at, String line) throws IOException, InterruptedException {
        Path dir = Files.createTempDirectory("mutant");
        List<String> changed = new ArrayList<>(lines);
        changed.set(at, line);
        Path file = Files.write(dir.resolve("YearFigures.java"), changed);
        OutputStream none = OutputStream.nullOutputStream();
        if (ToolProvider.getSystemJavaCompiler().run(null, none, none, "-nowarn", "-d", dir.toString(), file.toString()) == 0) {
            if (isNoticed(dir)) {
                noticed.incrementAndGet();
            } else {
                unnoticed.incrementAndGet();
                System.out.println("line " + (at + 1) + ": " + lines.get(at).trim() + "   =>   " + line.trim());
            }
        }
        try (Stream<Path> made = Files.walk(dir)) {
            made.sorted(Comparator.reverseOrder()).map(Path::toFile).forEach(File::delete);
        }
    }

    private boolean isNoticed(Path dir) throws IOException, InterruptedException {
        Process running = new ProcessBuilder("java", "-XX:TieredStopAtLevel=1", "-cp", dir + File.pathSeparator + tests, test)
            .redirectErrorStream(true).redirectOutput(ProcessBuilder.Redirect.DISCARD).start();
        if (running.waitFor(SECONDS, TimeUnit.SECONDS)) {
            return running.exitValue() != 0;
        }
        running.destroyForcibly();
        return true;
    }
}

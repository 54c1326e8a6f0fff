import java.io.IOException;
import java.lang.reflect.InvocationTargetException;
import java.lang.reflect.Method;
import java.nio.file.Files;
import java.nio.file.Path;
import java.util.ArrayList;
import java.util.Comparator;
import java.util.List;

/**
 * All promises: each sentence of the document that names an edge has a test of its own, a method with its words above it.
 * "java EdgesTest list" tells which test stands for which words, "java EdgesTest left" which words of the document no test
 * has above it.
 */
public final class EdgesTest {
    private static final Class<?>[] ALL = {TellingEdges.class, TextEdges.class, LawEdges.class, DefinitionEdges.class,
        MonthEdges.class, DecemberEdges.class, YearEdges.class, ShareEdges.class, TableEdges.class, RecordEdges.class,
        FigureEdges.class, RefusedEdges.class};
    private static final int PROMISES = 35;
    private static final Path DOCUMENT = Path.of("../shared/DOC.md");

    private final String document;
    private final List<Method> tests = new ArrayList<>();
    private int asked = 0;
    private int wrong = 0;

    private EdgesTest(String document) {
        this.document = document.replaceAll("\\s+", " ");
        for (Class<?> one : ALL) {
            for (Method test : one.getDeclaredMethods()) {
                if (test.isAnnotationPresent(Edge.class)) {
                    tests.add(test);
                }
            }
        }
        tests.sort(Comparator.comparing((Method test) -> edge(test).promise()).thenComparing(Method::getName));
    }

    public static void main(String[] args) throws IOException, ReflectiveOperationException {
        EdgesTest all = new EdgesTest(Files.exists(DOCUMENT) ? Files.readString(DOCUMENT) : "");
        String what = args.length > 0 ? args[0] : "";
        switch (what) {
            case "list":
                all.tests.forEach(test -> System.out.println(name(test)));
                break;
            case "left":
                System.out.println(all.wordsLeft());
                break;
            default:
                all.runAll();
        }
    }

    private static Edge edge(Method test) {
        return test.getAnnotation(Edge.class);
    }

    private static String name(Method test) {
        String place = test.getDeclaringClass().getName() + "." + test.getName();
        return "promise " + edge(test).promise() + ", " + place + ", \"" + edge(test).says() + "\"";
    }

    private void runAll() throws ReflectiveOperationException {
        for (int promise = 1; promise <= PROMISES; promise++) {
            int wanted = promise;
            is("promise " + promise + " has tests of its edges", tests.stream().anyMatch(t -> edge(t).promise() == wanted));
        }
        for (Method test : tests) {
            is(name(test) + ": the document says so", saysSo(edge(test).promise(), edge(test).says()));
            Due due = new Due(name(test));
            run(test, due);
            is(name(test) + " asks something", due.asked() > 0);
            asked += due.asked();
            wrong += due.wrong();
        }
        System.out.println("EdgesTest: " + tests.size() + " edges, " + asked + " answers asked, " + wrong + " not as due");
        if (wrong != 0) {
            System.exit(1);
        }
    }

    private static void run(Method test, Due due) throws ReflectiveOperationException {
        test.setAccessible(true);
        try {
            test.invoke(null, due);
        } catch (InvocationTargetException thrown) {
            due.is("threw " + thrown.getCause(), true, false);
        }
    }

    private void is(String what, boolean so) {
        asked++;
        if (!so) {
            wrong++;
            System.out.println("EdgesTest: not so: " + what);
        }
    }

    /** The words stand in the promise itself, or in the parts ahead of all promises; without a document it isn't asked. */
    private boolean saysSo(int promise, String words) {
        if (document.isEmpty()) {
            return true;
        }
        int first = document.indexOf("## Promise 1:");
        int from = document.indexOf("## Promise " + promise + ":");
        int to = document.indexOf("## ", from + 3);
        return document.substring(0, first).contains(words) || document.substring(from, to).contains(words);
    }

    private String wordsLeft() {
        StringBuilder left = new StringBuilder(document);
        for (Method test : tests) {
            String words = edge(test).says();
            for (int at = document.indexOf(words); at >= 0; at = document.indexOf(words, at + 1)) {
                left.replace(at, at + words.length(), "_".repeat(words.length()));
            }
        }
        return left.toString().replaceAll("_[_ ]*_", "__").replace("## ", "\n## ");
    }
}

import java.io.IOException;
import java.lang.reflect.Constructor;
import java.lang.reflect.Field;
import java.lang.reflect.Method;
import java.lang.reflect.Modifier;
import java.nio.file.Files;
import java.nio.file.Path;
import java.util.ArrayList;
import java.util.Arrays;
import java.util.List;
import java.util.TreeSet;
import java.util.regex.Matcher;
import java.util.regex.Pattern;

/** The face of the document, and those rules of LANGUAGE.md that the source or the classes show. */
public final class LanguageTest {
    private static final Due DUE = new Due("LanguageTest");
    private static final String[] FACE = {
        "boolean county(int,int)", "boolean next(int,int,boolean)", "boolean figure(int,int)", "boolean staff(int)",
        "int feed(int,int,int,int,int)", "int law(int)", "int report(int)", "int months(int)", "int tried(int,int)",
        "int counted(int,int)", "int figureIs(int,int)", "int share(int,int,int)", "int loses(int,int)", "int breaks(int,int)",
        "int regions(int)", "int table(int,int,int,int)", "int bled(int,int)", "int canComeOut(int)",
        "boolean record(int,int,int,int,int)", "int definition(int,int)", "int fallsUnder(int)", "int joined(int,int)",
        "int window(int,int,int)", "int middle(int,int)", "int published(int,int)", "int inARow(int)", "int halves(int)",
        "int rising(int,int)", "long spaced(int,int,int)", "boolean seed(int)", "int keep()", "boolean undo()",
        "int check(int,int)", "int count(int)"};

    public static void main(String[] args) throws IOException {
        face();
        faceOfTheDocument(Path.of("../shared/DOC.md"));
        inside();
        source(Files.readString(Path.of("src/main/java/YearFigures.java")));
        DUE.end();
    }

    private static void face() {
        TreeSet<String> found = new TreeSet<>();
        for (Method m : YearFigures.class.getDeclaredMethods()) {
            if (!Modifier.isPrivate(m.getModifiers())) {
                String parameters = String.join(",", Arrays.stream(m.getParameterTypes()).map(Class::getName).toList());
                found.add(m.getReturnType().getName() + " " + m.getName() + "(" + parameters + ")");
                DUE.is(m.getName() + " is public and no more", m.getModifiers(), Modifier.PUBLIC);
            }
        }
        DUE.is("the face is " + found, found.equals(new TreeSet<>(Arrays.asList(FACE))), true);
        for (Field f : YearFigures.class.getDeclaredFields()) {
            boolean isNone = f.getName().equals("NONE") && Modifier.isPublic(f.getModifiers());
            DUE.is("field " + f.getName() + " is private", isNone || Modifier.isPrivate(f.getModifiers()), true);
        }
        Constructor<?>[] makers = YearFigures.class.getDeclaredConstructors();
        DUE.is("one constructor", makers.length, 1);
        DUE.is("public", Modifier.isPublic(makers[0].getModifiers()), true);
        DUE.is("the class is public and final", YearFigures.class.getModifiers(), Modifier.PUBLIC | Modifier.FINAL);
    }

    /** Without a document it isn't asked. */
    private static void faceOfTheDocument(Path document) throws IOException {
        if (!Files.exists(document)) {
            return;
        }
        TreeSet<String> told = new TreeSet<>();
        Matcher member = Pattern.compile("(?m)^    public (\\w+ \\w+)\\((.*)\\);$").matcher(Files.readString(document));
        while (member.find()) {
            told.add(member.group(1) + "(" + member.group(2).replaceAll(" \\w+(?=,|$)", "").replace(" ", "") + ")");
        }
        DUE.is("the document's face is " + told, told.equals(new TreeSet<>(Arrays.asList(FACE))), true);
    }

    private static void inside() {
        List<String> names = new ArrayList<>();
        for (String signature : FACE) {
            names.add(signature.replaceAll("^.* |[(].*$", ""));
        }
        List<Class<?>> all = new ArrayList<>(Arrays.asList(YearFigures.class.getDeclaredClasses()));
        DUE.is("classes", all.size() <= 12, true);
        for (Class<?> c : all) {
            DUE.is(c.getName() + " is static", Modifier.isStatic(c.getModifiers()), true);
            for (Method m : c.getDeclaredMethods()) {
                DUE.is(c.getName() + "." + m.getName() + " bears no name of the face", names.contains(m.getName()), false);
            }
        }
        all.add(YearFigures.class);
        for (Class<?> c : all) {
            long held = Arrays.stream(c.getDeclaredFields()).filter(f -> !Modifier.isStatic(f.getModifiers())).count();
            DUE.is(c.getName() + " has " + held + " fields", held <= 20, true);
            for (Field f : c.getDeclaredFields()) {
                boolean isFine = !Modifier.isStatic(f.getModifiers()) || Modifier.isFinal(f.getModifiers());
                DUE.is(c.getName() + "." + f.getName() + " is final if static", isFine, true);
            }
            for (Method m : c.getDeclaredMethods()) {
                DUE.is(c.getName() + "." + m.getName() + " has few parameters", m.getParameterCount() <= 7, true);
            }
        }
    }

    private static void source(String text) {
        String bare = text.replaceAll("(?s)/\\*.*?\\*/", "").replaceAll("//[^\n]*", "");
        String code = bare.replaceAll("'[^'\n]+'", "0").replaceAll("\"[^\"\n]*\"", "TEXT");
        String[] never = {"throw", "throws", "try", "catch", "finally", "synchronized", "assert", "instanceof", "while", "Object",
            "protected", "double", "float", "System\\.(?!arraycopy)", "Arrays\\.(?!fill)", "Math\\.(?!max|min|abs)",
            "Integer\\.(?!bitCount)", "package", "equals", "hashCode", "toString", "Exact", "->", "::", "\\? extends"};
        for (String one : never) {
            Matcher found = Pattern.compile(Character.isLetter(one.charAt(0)) ? "\\b" + one + "\\b" : one).matcher(code);
            String open = one.contains("(?!") ? "\\b" + one : null;
            if (open != null) {
                found = Pattern.compile(open).matcher(code);
            }
            DUE.is("the source has " + one, found.find(), false);
        }
        DUE.is("imports", bare.split("\nimport ").length + (bare.startsWith("import java.util.Arrays;") ? 0 : 100), 1);
        for (char sign : text.toCharArray()) {
            if (sign > 126 || sign < 32 && sign != '\n') {
                DUE.is("a sign", sign, ' ');
            }
        }
        lengths(code);
    }

    /** Methods stay short: from a line that opens one to the brace at the same depth. */
    private static void lengths(String code) {
        String[] lines = code.split("\n");
        for (int i = 0; i < lines.length; i++) {
            Matcher opens = Pattern.compile("^( {4}| {8})\\S.*[)] [{]$").matcher(lines[i]);
            if (opens.find()) {
                int end = i;
                while (!lines[end].equals(opens.group(1) + "}")) {
                    end++;
                }
                DUE.is("method of " + (end - i) + " lines: " + lines[i].trim(), end - i <= 60, true);
            }
        }
    }
}

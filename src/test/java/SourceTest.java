import java.io.IOException;
import java.lang.reflect.Executable;
import java.lang.reflect.Modifier;
import java.nio.file.Files;
import java.nio.file.Path;
import java.util.ArrayList;
import java.util.List;
import java.util.regex.Matcher;
import java.util.regex.Pattern;
import java.util.stream.Stream;

/** The rules of LANGUAGE.md that can be told from the source: one file, without what they rule out. */
final class SourceTest {
    private static final Check check = new Check();
    private static final Path FOLDER = Path.of("src", "main", "java");
    private static final String[] RULED_OUT = {
        "\\bpackage\\b", "\\bimport\\b", "->", "::", "\\bfinally\\b", "\\bsynchronized\\b", "\\bassert\\b",
        "\\bcatch\\b", "\\bextends\\s+\\w*Exception\\b", "\\b(equals|hashCode|toString)\\s*\\(", "\\w+Exact\\b",
        "\\bMath\\.(?!min\\b|max\\b)", "\\bSystem\\.(?!arraycopy\\b)", "\\bThread\\b", "\\bRandom\\b", "\\bjava\\.",
        "\\bstatic\\s*\\{", "\\bstatic (int|long|boolean|char|double|float|byte|short)(\\[\\])* \\w+\\s*[;=]",
    };

    public static void main(String[] args) throws IOException {
        oneFile();
        nothingRuledOut();
        namedExceptionsAlone();
        sizes();
        check.end();
    }

    private static void oneFile() throws IOException {
        List<String> files = new ArrayList<>();
        try (Stream<Path> all = Files.walk(Path.of("src", "main"))) {
            all.filter(Files::isRegularFile).forEach(file -> files.add(file.getFileName().toString()));
        }
        check.holds("one file, BandDay.java: " + files, files.equals(List.of("BandDay.java")));
    }

    /** The source without its comments and texts. */
    private static String code() throws IOException {
        String source = Files.readString(FOLDER.resolve("BandDay.java"));
        return source.replaceAll("(?s)/\\*.*?\\*/", "").replaceAll("//[^\n]*", "").replaceAll("\"[^\"]*\"", "\"\"");
    }

    private static void nothingRuledOut() throws IOException {
        String code = code();
        for (String words : RULED_OUT) {
            Matcher found = Pattern.compile(words).matcher(code);
            check.holds("no " + words + " in the source", !found.find());
        }
    }

    private static void namedExceptionsAlone() throws IOException {
        Matcher thrown = Pattern.compile("\\bthrow\\b\\s*([^;]*);").matcher(code());
        int times = 0;
        while (thrown.find()) {
            times++;
            check.holds("throw " + thrown.group(1) + " is one of the document's exceptions", thrown.group(1).matches(
                    "new (IllegalArgumentException|IllegalStateException|IndexOutOfBoundsException)\\(\"\"\\)"));
        }
        check.holds("the source throws", times > 0);
    }

    private static void sizes() {
        List<Class<?>> classes = new ArrayList<>(List.of(BandDay.class.getDeclaredClasses()));
        classes.add(BandDay.class);
        check.holds("at most 12 classes", classes.size() <= 12);
        for (Class<?> one : classes) {
            long fields = Stream.of(one.getDeclaredFields())
                    .filter(field -> !Modifier.isStatic(field.getModifiers())).count();
            check.holds(one + " has at most 20 fields", fields <= 20);
            List<Executable> bodies = new ArrayList<>(List.of(one.getDeclaredMethods()));
            bodies.addAll(List.of(one.getDeclaredConstructors()));
            for (Executable body : bodies) {
                check.holds(body + " has at most 7 parameters", body.getParameterCount() <= 7);
            }
        }
    }
}

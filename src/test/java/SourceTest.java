import java.io.IOException;
import java.lang.reflect.Executable;
import java.lang.reflect.Modifier;
import java.nio.file.Files;
import java.nio.file.Path;
import java.util.ArrayList;
import java.util.Arrays;
import java.util.List;
import java.util.regex.Matcher;
import java.util.regex.Pattern;
import java.util.stream.Stream;

/** The rules of LANGUAGE.md that can be told from the source: one file, without what they rule out. */
final class SourceTest {
    private static final Check check = new Check();
    private static final Path FOLDER = Path.of("src", "main", "java");
    private static final String[] RULED_OUT = {
        "\\bpackage\\b", "\\bimport\\b", "->", "::", "\\bfinally\\b", "\\bsynchronized\\b", "\\bassert\\b",
        "\\bcatch\\b", "\\bextends\\s+\\w*Exception\\b", "\\b(equals|hashCode|toString)\\s*\\(", "\\w+Exact\\b",
        "\\bMath\\.(?!min\\b|max\\b)", "\\bSystem\\.(?!arraycopy\\b)", "\\bThread\\b", "\\bRandom\\b", "\\bjava\\.",
        "\\bstatic\\s*\\{", "\\bstatic (int|long|boolean|char|double|float|byte|short)(\\[\\])* \\w+\\s*[;=]",
    };

    public static void main(String[] args) throws IOException {
        oneFile();
        nothingRuledOut();
        namedExceptionsAlone();
        sizes();
        loopsCountAgainstABound();
        indexesAreLookedAt();
        constructorsHandOutNothing();
        methodsAreShort();
        check.end();
    }

    private static void oneFile() throws IOException {
        List<String> files = new ArrayList<>();
        try (Stream<Path> all = Files.walk(Path.of("src", "main"))) {
            all.filter(Files::isRegularFile).forEach(file -> files.add(file.getFileName().toString()));
        }
        check.holds("one file, BandDay.java: " + files, files.equals(List.of("BandDay.java")));
    }

    /** The source without its comments and texts. */
    private static String code() throws IOException {
        String source = Files.readString(FOLDER.resolve("BandDay.java"));
        return source.replaceAll("(?s)/\\*.*?\\*/", "").replaceAll("//[^\n]*", "").replaceAll("\"[^\"]*\"", "\"\"");
    }

    private static void nothingRuledOut() throws IOException {
        String code = code();
        for (String words : RULED_OUT) {
            Matcher found = Pattern.compile(words).matcher(code);
            check.holds("no " + words + " in the source", !found.find());
        }
    }

    private static void namedExceptionsAlone() throws IOException {
        Matcher thrown = Pattern.compile("\\bthrow\\b\\s*([^;]*);").matcher(code());
        int times = 0;
        while (thrown.find()) {
            times++;
            check.holds("throw " + thrown.group(1) + " is one of the document's exceptions", thrown.group(1).matches(
                    "new (IllegalArgumentException|IllegalStateException|IndexOutOfBoundsException)\\(\"\"\\)"));
        }
        check.holds("the source throws", times > 0);
    }

    private static List<Class<?>> classes() {
        List<Class<?>> classes = new ArrayList<>(List.of(BandDay.class.getDeclaredClasses()));
        classes.add(BandDay.class);
        return classes;
    }

    private static void sizes() {
        List<Class<?>> classes = classes();
        check.holds("at most 12 classes", classes.size() <= 12);
        for (Class<?> one : classes) {
            long fields = Stream.of(one.getDeclaredFields())
                    .filter(field -> !Modifier.isStatic(field.getModifiers())).count();
            check.holds(one + " has at most 20 fields", fields <= 20);
            List<Executable> bodies = new ArrayList<>(List.of(one.getDeclaredMethods()));
            bodies.addAll(List.of(one.getDeclaredConstructors()));
            for (Executable body : bodies) {
                check.holds(body + " has at most 7 parameters", body.getParameterCount() <= 7);
            }
        }
    }

    private static void loopsCountAgainstABound() throws IOException {
        String code = code();
        check.holds("no loop without a counter", !Pattern.compile("\\b(while|do)\\b").matcher(code).find());
        Matcher loop = Pattern.compile("\\bfor \\((.*)\\) \\{").matcher(code);
        int loops = 0;
        while (loop.find()) {
            loops++;
            check.holds("for (" + loop.group(1) + ") counts against a bound", loop.group(1).matches(
                    "int (\\w+) = [^;]+; \\1 (<|<=|>=) [^;]+; \\1(\\+\\+|--)"));
        }
        check.holds("each loop was seen", loops > 0 && loops == code.split("\\bfor\\b").length - 1);
    }

    /** The methods and constructors of the source, without comments. */
    private static List<String> methods() throws IOException {
        List<String> methods = new ArrayList<>();
        String body = "(?ms)^( {4}| {8})(?=\\w)[\\w\\[\\] ]+\\([^{;=]*\\{\\n.*?^\\1\\}$";
        Matcher method = Pattern.compile(body).matcher(code());
        while (method.find()) {
            methods.add(method.group());
        }
        return methods;
    }

    /** An index that is no written number is looked at in the method that uses it, or by needInstrument. */
    private static void indexesAreLookedAt() throws IOException {
        Pattern use = Pattern.compile("\\w\\[(\\w+)\\]");
        int uses = 0;
        for (String method : methods()) {
            Matcher used = use.matcher(method);
            while (used.find()) {
                String index = used.group(1);
                if (index.matches("\\d+|[A-Z_]+")) {
                    continue;
                }
                uses++;
                String ahead = method.substring(0, used.start());
                String[] looks = {"for (int " + index + " = ", index + " >= 0 && " + index + " < ",
                    "needInstrument(" + index + ");", index + " >= MAX_"};
                check.holds("[" + index + "] is looked at ahead of its use in\n" + method,
                        Arrays.stream(looks).anyMatch(ahead::contains));
            }
        }
        check.holds("indexes were seen", uses > 0);
    }

    private static void constructorsHandOutNothing() throws IOException {
        String code = code();
        check.holds("no object of the source is made from parts of another one",
                !Pattern.compile("new (Player|Chair|Band|Season|Contest)\\([^)]").matcher(code).find());
        check.holds("nobody hands out this", !Pattern.compile("\\bthis\\b").matcher(code).find());
    }

    private static void methodsAreShort() throws IOException {
        List<String> methods = methods();
        int bodies = 0;
        for (Class<?> one : classes()) {
            bodies += (int) Stream.of(one.getDeclaredMethods()).filter(method -> !method.isSynthetic()).count();
        }
        check.holds("each of " + bodies + " methods was seen, and constructors: " + methods.size(),
                methods.size() >= bodies);
        for (String method : methods) {
            check.holds("at most 60 lines:\n" + method, method.split("\n").length <= 60);
        }
    }
}

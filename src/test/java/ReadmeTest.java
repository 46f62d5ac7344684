import java.io.IOException;
import java.lang.reflect.Method;
import java.lang.reflect.Modifier;
import java.nio.file.Files;
import java.nio.file.Path;
import java.util.ArrayList;
import java.util.LinkedHashMap;
import java.util.List;
import java.util.Map;
import java.util.regex.Matcher;
import java.util.regex.Pattern;
import java.util.stream.Stream;

/** README.md: its example is this test's own, with the answers that it tells; each method and each test is named. */
final class ReadmeTest {
    private static final Check check = new Check();
    private static final Path TESTS = Path.of("src", "test", "java");

    public static void main(String[] args) throws IOException {
        String page = Files.readString(Path.of("README.md"));
        exampleIsThisTests(page);
        exampleAnswers(page);
        eachMethodIsNamed(page);
        eachTestIsNamed(page);
        check.end();
    }

    private static Map<String, Integer> example() {
        BandDay day = new BandDay();
        int player = day.addPlayer(7, 3, 1, 0);
        int friend = day.addPlayer(4, 2, 8, 1);
        int band = day.found(13);
        int nobody = day.seat(band, 1, player);
        int nobodyToo = day.seat(band, 0, friend);
        int seats = day.advise(band);
        int first = day.change(band, 0, 1);
        int next = day.foresee(band, 1, 0);
        int winner = day.contest();
        int marks = day.band(band, 3);
        int tired = day.player(player, 4);

        Map<String, Integer> answers = new LinkedHashMap<>();
        answers.put("player", player);
        answers.put("friend", friend);
        answers.put("band", band);
        answers.put("nobody", nobody);
        answers.put("nobodyToo", nobodyToo);
        answers.put("seats", seats);
        answers.put("first", first);
        answers.put("next", next);
        answers.put("winner", winner);
        answers.put("marks", marks);
        answers.put("tired", tired);
        return answers;
    }

    private static String[] exampleLines(String page) {
        Matcher block = Pattern.compile("(?s)```java\n(.*?)```").matcher(page);
        boolean found = block.find();
        check.holds("the page has an example", found);
        return found ? block.group(1).split("\n") : new String[0];
    }

    private static void exampleIsThisTests(String page) throws IOException {
        List<String> told = new ArrayList<>();
        for (String line : exampleLines(page)) {
            told.add(line.replaceAll("\\s*//.*", ""));
        }
        String own = Files.readString(TESTS.resolve("ReadmeTest.java"));
        check.holds("the lines of the example are those of this test",
                own.contains("        " + String.join("\n        ", told) + "\n\n"));
    }

    private static void exampleAnswers(String page) {
        Map<String, Integer> answers = example();
        Pattern row = Pattern.compile("int (\\w+) = .*; +// (-?\\d+): .*");
        int rows = 0;
        for (String line : exampleLines(page)) {
            Matcher told = row.matcher(line);
            if (told.matches()) {
                rows++;
                String name = told.group(1);
                check.holds("the example tells " + line + ", due is " + answers.get(name),
                        Integer.valueOf(told.group(2)).equals(answers.get(name)));
            }
        }
        check.same("answers in the example", answers.size(), rows);
    }

    private static void eachMethodIsNamed(String page) {
        for (Method method : BandDay.class.getDeclaredMethods()) {
            if (Modifier.isPublic(method.getModifiers())) {
                check.holds("the page names " + method.getName(), page.contains("`" + method.getName() + "`"));
            }
        }
    }

    private static void eachTestIsNamed(String page) throws IOException {
        List<String> tests = new ArrayList<>();
        try (Stream<Path> files = Files.list(TESTS)) {
            files.map(file -> file.getFileName().toString()).filter(name -> name.endsWith("Test.java"))
                    .forEach(name -> tests.add(name.replace(".java", "")));
        }
        for (String test : tests) {
            check.holds("the page names " + test, page.contains("`" + test + "`"));
        }
        Matcher named = Pattern.compile("`(\\w+Test)`").matcher(page);
        while (named.find()) {
            check.holds("there is a test " + named.group(1), tests.contains(named.group(1)));
        }
    }
}

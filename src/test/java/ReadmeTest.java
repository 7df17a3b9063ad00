import java.io.IOException;
import java.lang.reflect.Method;
import java.lang.reflect.Modifier;
import java.nio.file.Files;
import java.nio.file.Path;
import java.util.Arrays;
import java.util.List;
import java.util.regex.Matcher;
import java.util.regex.Pattern;
import java.util.stream.Collectors;
import java.util.stream.Stream;

/** README.md shows how the class is used: its example answers what stands there, and nothing is left unnamed. */
final class ReadmeTest {
    private static final Check check = new Check("ReadmeTest");
    private static final Pattern ASKED = Pattern.compile("^x\\.(\\w+)\\((.*)\\); +// (-?\\d+)(?=:).*$");
    private static final Pattern TOLD = Pattern.compile("String text = \"([^\"]+)\";");
    private static final String LETTER_BY_LETTER = "x.put(0, i, text.charAt(i));";

    public static void main(String[] args) throws IOException, ReflectiveOperationException {
        String readme = Files.readString(Path.of("README.md"));
        example(readme);
        namesEveryCall(readme);
        namesEveryTest(readme);
        check.end();
    }

    private static void example(String readme) throws ReflectiveOperationException {
        Matcher block = Pattern.compile("(?s)```java\n(.*?)```").matcher(readme);
        boolean found = block.find();
        check.holds("README.md has an example", found);
        if (!found) {
            return;
        }
        Matcher told = TOLD.matcher(block.group(1));
        String text = told.find() ? told.group(1) : "";
        YearDeck x = new YearDeck();
        int asked = 0;
        for (String line : block.group(1).split("\n")) {
            Matcher call = ASKED.matcher(line);
            if (call.matches()) {
                asked++;
                check.due(line, answer(x, call.group(1), call.group(2), text), Long.parseLong(call.group(3)));
            } else if (line.trim().equals(LETTER_BY_LETTER)) {
                for (int i = 0; i < text.length(); i++) {
                    x.put(0, i, text.charAt(i));
                }
            } else {
                check.holds("'" + line + "' says what it answers", !line.startsWith("x."));
            }
        }
        check.holds("the example asks something", asked > 0);
    }

    private static long answer(YearDeck x, String name, String given, String text) throws ReflectiveOperationException {
        Object[] numbers = Stream.of(given.replace("text.length()", String.valueOf(text.length())).split(", *"))
            .filter(number -> !number.isEmpty()).map(Integer::valueOf).toArray();
        Class<?>[] ints = new Class<?>[numbers.length];
        Arrays.fill(ints, int.class);
        return ((Number) YearDeck.class.getMethod(name, ints).invoke(x, numbers)).longValue();
    }

    private static void namesEveryCall(String readme) {
        for (Method m : YearDeck.class.getDeclaredMethods()) {
            if (Modifier.isPublic(m.getModifiers())) {
                check.holds("README.md names " + m.getName(), readme.contains("`" + m.getName() + "`"));
            }
        }
    }

    private static void namesEveryTest(String readme) throws IOException {
        List<String> tests;
        try (Stream<Path> files = Files.list(Path.of("src/test/java"))) {
            tests = files.map(file -> file.getFileName().toString()).filter(name -> name.endsWith("Test.java"))
                .map(name -> name.replace(".java", "")).collect(Collectors.toList());
        }
        for (String test : tests) {
            check.holds("README.md names " + test, readme.contains("| `" + test + "` |"));
        }
    }
}

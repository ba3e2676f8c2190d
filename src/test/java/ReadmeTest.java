import java.io.IOException;
import java.lang.reflect.Method;
import java.lang.reflect.Modifier;
import java.nio.file.Files;
import java.nio.file.Path;
import java.util.regex.Matcher;
import java.util.regex.Pattern;

/** README.md: its example answers what it says, and it names every method and every test. */
public final class ReadmeTest {
    private static final Check check = new Check();
    private static final Pattern EXAMPLE = Pattern.compile("(?s)```java\n(.*?)```");
    private static final Pattern CALL = Pattern.compile("x\\.(\\w+\\([^)]*\\));\\s*// ([^:\n]+)");

    public static void main(String[] args) throws IOException {
        String readme = Files.readString(Path.of("README.md"));
        example(readme);
        for (Method m : BroadcastCarousel.class.getDeclaredMethods()) {
            if (Modifier.isPublic(m.getModifiers())) {
                check.dueText("README.md names " + m.getName(), "true", "" + readme.contains("`" + m.getName() + "("));
            }
        }
        tests(readme);
        check.end();
    }

    private static void example(String readme) {
        Matcher example = EXAMPLE.matcher(readme);
        check.dueText("README.md has an example", "true", "" + example.find());
        BroadcastCarousel x = new BroadcastCarousel();
        int made = 0;
        Matcher calls = CALL.matcher(example.group(1));
        while (calls.find()) {
            made++;
            String due = calls.group(2).strip().replace("throws ", "throws.");
            check.dueText("README.md: " + calls.group(1), due, Calls.outcome(x, calls.group(1)));
        }
        long written = example.group(1).lines().filter(line -> line.contains("x.")).count();
        check.dueText("calls of the example with an answer", "" + written, "" + made);
    }

    private static void tests(String readme) throws IOException {
        try (var files = Files.list(Path.of("src/test/java"))) {
            files.map(file -> file.getFileName().toString()).filter(name -> name.endsWith("Test.java")).forEach(name -> {
                String test = name.substring(0, name.length() - ".java".length());
                check.dueText("README.md names " + test, "true", "" + readme.contains("| `" + test + "` |"));
            });
        }
    }
}

import java.io.IOException;
import java.io.UncheckedIOException;
import java.nio.file.Files;
import java.nio.file.Path;
import java.util.ArrayList;
import java.util.LinkedHashMap;
import java.util.List;
import java.util.Map;
import java.util.regex.Matcher;
import java.util.regex.Pattern;

/** The document, cut into its parts and promises, so that a test can quote what it looks at. */
final class Document {
    static final String OPENING = "opening";
    private static final Path PLACE = Path.of("../shared/DOC.md");
    private static final Pattern PROMISE = Pattern.compile("## Promise (\\d+):.*");
    private static final Pattern PART = Pattern.compile("(\\d)\\. [A-Z ]+");

    private final Map<String, List<String>> sections = new LinkedHashMap<>();

    static String part(int number) {
        return "part " + number;
    }

    static String promise(int number) {
        return "promise " + number;
    }

    static Document read() {
        try {
            return new Document(Files.readAllLines(PLACE));
        } catch (IOException e) {
            throw new UncheckedIOException(e);
        }
    }

    private Document(List<String> lines) {
        String section = OPENING;
        boolean code = false;
        for (String line : lines) {
            code ^= line.startsWith("```");
            section = sectionFrom(line, section);
            if (!code && !isMarkup(line)) {
                sections.computeIfAbsent(section, s -> new ArrayList<>()).add(folded(line));
            }
        }
    }

    private static String sectionFrom(String line, String present) {
        Matcher promise = PROMISE.matcher(line);
        if (promise.matches()) {
            return promise(Integer.parseInt(promise.group(1)));
        }
        Matcher part = PART.matcher(line);
        if (part.matches()) {
            return part(Integer.parseInt(part.group(1)));
        }
        return line.equals("## Not promised") ? "not promised" : present;
    }

    private static boolean isMarkup(String line) {
        return line.isBlank() || line.startsWith("#") || line.startsWith("`") || line.startsWith("----")
                || PART.matcher(line).matches();
    }

    private static String folded(String line) {
        return line.strip().replaceAll("\\s+", " ");
    }

    boolean says(String section, String words) {
        for (String line : sections.getOrDefault(section, List.of())) {
            if (line.contains(folded(words))) {
                return true;
            }
        }
        return false;
    }

    /** All sentences of what is promised; a line without a full stop is one, too. */
    Map<String, List<String>> sentences() {
        Map<String, List<String>> all = new LinkedHashMap<>();
        sections.forEach((section, lines) -> {
            if (!section.equals("not promised")) {
                List<String> sentences = all.computeIfAbsent(section, s -> new ArrayList<>());
                lines.forEach(line -> sentences.addAll(List.of(line.split("(?<=[.]) "))));
            }
        });
        return all;
    }
}

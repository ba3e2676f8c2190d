import java.io.IOException;
import java.lang.reflect.Constructor;
import java.lang.reflect.Field;
import java.lang.reflect.Method;
import java.lang.reflect.Modifier;
import java.nio.file.Files;
import java.nio.file.Path;
import java.util.ArrayList;
import java.util.List;
import java.util.Set;
import java.util.TreeSet;
import java.util.regex.Matcher;
import java.util.regex.Pattern;

/** The public face of the document, and those rules of LANGUAGE.md that a text search can see. */
public final class FaceTest {
    private static final Check check = new Check();
    private static final Path SOURCE = Path.of("src/main/java/BroadcastCarousel.java");
    private static final Path DOCUMENT = Path.of("../shared/DOC.md");

    public static void main(String[] args) throws IOException {
        members();
        signatures();
        classesInside();
        forbiddenWords();
        check.end();
    }

    private static void members() {
        Class<?> face = BroadcastCarousel.class;
        check.dueText("modifiers", "public final", Modifier.toString(face.getModifiers()));
        for (Field f : face.getDeclaredFields()) {
            boolean constant = f.getName().equals("NONE");
            check.dueText("field " + f.getName(), constant ? "public static final" : "private",
                    constant ? Modifier.toString(f.getModifiers()) : Modifier.toString(f.getModifiers()).split(" ")[0]);
            if (Modifier.isStatic(f.getModifiers())) {
                check.dueText("static field " + f.getName(), "true", "" + Modifier.isFinal(f.getModifiers()));
            }
        }
        Constructor<?>[] constructors = face.getDeclaredConstructors();
        check.dueText("constructors", "1", "" + constructors.length);
        check.dueText("constructor", "public BroadcastCarousel()", constructors[0].toString());
        Set<String> open = new TreeSet<>();
        for (Method m : face.getDeclaredMethods()) {
            if (!Modifier.isPrivate(m.getModifiers())) {
                open.add(m.getName());
                check.dueText("method " + m.getName(), "public", Modifier.toString(m.getModifiers()));
            }
        }
        for (Method m : face.getDeclaredMethods()) {
            if (Modifier.isPrivate(m.getModifiers())) {
                check.dueText("private method " + m.getName(), "false", "" + open.contains(m.getName()));
            }
        }
        for (Class<?> inside : face.getDeclaredClasses()) {
            for (Method m : inside.getDeclaredMethods()) {
                check.dueText("method inside, " + m.getName(), "false", "" + open.contains(m.getName()));
            }
        }
    }

    /** Every line of the document's face, blanks folded, with the class's own methods. */
    private static void signatures() throws IOException {
        Set<String> due = new TreeSet<>();
        String document = Files.readString(DOCUMENT);
        String block = document.substring(document.indexOf("```java"), document.indexOf("```\n", document.indexOf("```java") + 7));
        Matcher lines = Pattern.compile("public (int|long|double) (\\w+)\\(([^)]*)\\)( throws [\\w, ]+)?;").matcher(block);
        while (lines.find()) {
            int parameters = lines.group(3).isBlank() ? 0 : lines.group(3).split(",").length;
            String thrown = lines.group(4) == null ? "" : lines.group(4).replace(" throws ", "");
            due.add(lines.group(1) + " " + lines.group(2) + " " + parameters + " " + thrown);
        }
        Set<String> got = new TreeSet<>();
        for (Method m : BroadcastCarousel.class.getDeclaredMethods()) {
            if (Modifier.isPublic(m.getModifiers())) {
                List<String> thrown = new ArrayList<>();
                for (Class<?> e : m.getExceptionTypes()) {
                    thrown.add(e.getSimpleName());
                }
                got.add(m.getReturnType() + " " + m.getName() + " " + m.getParameterCount() + " " + String.join(", ", thrown));
                for (Class<?> p : m.getParameterTypes()) {
                    check.dueText("parameter of " + m.getName(), "int", p.toString());
                }
            }
        }
        check.dueText("how many methods", "48", "" + due.size());
        check.dueText("the methods", due.toString(), got.toString());
    }

    private static void classesInside() {
        Class<?>[] inside = BroadcastCarousel.class.getDeclaredClasses();
        check.dueText("at most twelve classes", "true", "" + (inside.length < 12));
        for (Class<?> c : inside) {
            check.dueText("static " + c.getName(), "true", "" + Modifier.isStatic(c.getModifiers()));
            int fields = 0;
            for (Field f : c.getDeclaredFields()) {
                fields += Modifier.isStatic(f.getModifiers()) ? 0 : 1;
            }
            check.dueText("fields of " + c.getName() + ": " + fields, "true", "" + (fields <= 20));
        }
    }

    private static void forbiddenWords() throws IOException {
        String source = Files.readString(SOURCE).replaceAll("(?s)/\\*.*?\\*/", " ").replaceAll("//[^\n]*", " ");
        check.dueText("imports", "[import java.util.NoSuchElementException;]", all("import [^;]*;", source));
        String[] forbidden = {
            "->", "::", "\\bcatch\\b", "\\btry\\b", "\\bfinally\\b", "\\bsynchronized\\b", "\\bassert\\b",
            "Exact\\b", "\\bpackage\\b", "\\bprotected\\b", "\\bvar\\b", "\\bObject\\b", "\\bMap\\b",
            "Math\\.(?!max|min|floorMod)\\w+", "Integer\\.(?!bitCount)\\w+", "System\\.(?!arraycopy)\\w+",
            "\\bthrow (?!new (IllegalStateException|IllegalArgumentException|NoSuchElementException)\\(\"[^\"]*\"\\))",
            "\"\\s*\\+", "\\+\\s*\"", "\\.equals\\b", "\\bhashCode\\b", "\\btoString\\b", "\\bstatic\\s*\\{",
        };
        for (String pattern : forbidden) {
            check.dueText("nothing like " + pattern, "[]", all(pattern, source));
        }
    }

    private static String all(String pattern, String source) {
        List<String> found = new ArrayList<>();
        Matcher m = Pattern.compile(pattern).matcher(source);
        while (m.find()) {
            found.add(m.group());
        }
        return found.toString();
    }
}

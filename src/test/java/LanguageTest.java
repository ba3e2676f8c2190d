import com.sun.source.tree.BlockTree;
import com.sun.source.tree.CompilationUnitTree;
import com.sun.source.tree.MethodInvocationTree;
import com.sun.source.tree.MethodTree;
import com.sun.source.tree.NewClassTree;
import com.sun.source.util.JavacTask;
import com.sun.source.util.TreePath;
import com.sun.source.util.TreePathScanner;
import com.sun.source.util.Trees;
import java.io.IOException;
import java.nio.file.Path;
import java.util.ArrayList;
import java.util.LinkedHashSet;
import java.util.List;
import java.util.Map;
import java.util.Set;
import java.util.TreeMap;
import java.util.TreeSet;
import javax.lang.model.element.Element;
import javax.lang.model.element.ExecutableElement;
import javax.lang.model.element.Modifier;
import javax.tools.JavaCompiler;
import javax.tools.StandardJavaFileManager;
import javax.tools.ToolProvider;

/**
 * Rules of LANGUAGE.md that ask who calls whom, by the compiler's own reading of the class: the
 * library (rule 4), no throw in a constructor (6), no recursion (8), and the sizes (11).
 */
public final class LanguageTest {
    private static final Path SOURCE = Path.of("src/main/java/BroadcastCarousel.java");
    private static final String OWN = "BroadcastCarousel";
    private static final int MOST_PARAMETERS = 7;
    private static final int MOST_LINES = 60;
    private static final int MOST_DEPTH = 8;
    private static final Set<String> LIBRARY = Set.of(
            "java.lang.String.length()", "java.lang.String.charAt(int)", "java.lang.System.arraycopy("
            + "java.lang.Object,int,java.lang.Object,int,int)", "java.lang.Integer.bitCount(int)",
            "java.lang.Math.max(int,int)", "java.lang.Math.min(int,int)", "java.lang.Math.floorMod(int,int)");
    private static final Set<String> THROWN = Set.of("java.lang.IllegalStateException",
            "java.lang.IllegalArgumentException", "java.util.NoSuchElementException");

    private static final Check check = new Check();
    private static final Map<String, Set<String>> calls = new TreeMap<>();
    private static final Set<String> face = new TreeSet<>();

    public static void main(String[] args) throws IOException {
        readSource();
        check.dueText("constructor and methods of the face", "49", "" + face.size());
        for (String method : face) {
            List<String> deepest = deepest(method, new LinkedHashSet<>());
            check.dueText(deepest + " is at most " + MOST_DEPTH + " deep", "true",
                    "" + (deepest.size() <= MOST_DEPTH));
        }
        check.end();
    }

    private static void readSource() throws IOException {
        JavaCompiler compiler = ToolProvider.getSystemJavaCompiler();
        try (StandardJavaFileManager files = compiler.getStandardFileManager(null, null, null)) {
            JavacTask task = (JavacTask) compiler.getTask(null, files, null, List.of("-proc:none"), null,
                    files.getJavaFileObjects(SOURCE));
            Iterable<? extends CompilationUnitTree> units = task.parse();
            task.analyze();
            for (CompilationUnitTree unit : units) {
                new Reader(Trees.instance(task)).scan(unit, null);
            }
        }
    }

    /** The longest chain of calls from a method on, that method and the library's own included. */
    private static List<String> deepest(String method, Set<String> open) {
        List<String> chain = new ArrayList<>();
        if (!open.add(method)) {
            check.dueText("recursion in " + open, "none", method);
            return chain;
        }
        for (String called : calls.getOrDefault(method, Set.of())) {
            List<String> behind = deepest(called, open);
            if (behind.size() > chain.size()) {
                chain = behind;
            }
        }
        open.remove(method);
        chain = new ArrayList<>(chain);
        chain.add(0, method);
        return chain;
    }

    /** Notes the calls of every method, and looks at what can be seen of each one by itself. */
    private static final class Reader extends TreePathScanner<Void, Void> {
        private final Trees trees;
        private String present = "";

        Reader(Trees trees) {
            this.trees = trees;
        }

        @Override
        public Void visitMethod(MethodTree method, Void nothing) {
            String outer = present;
            ExecutableElement element = (ExecutableElement) trees.getElement(getCurrentPath());
            present = nameOf(element);
            calls.putIfAbsent(present, new TreeSet<>());
            boolean isFace = element.getModifiers().contains(Modifier.PUBLIC);
            if (isFace) {
                face.add(present);
            }
            check.dueText("parameters of " + present, "true", "" + (method.getParameters().size() <= MOST_PARAMETERS));
            check.dueText("lines of " + present, "true", "" + (linesOf(method) <= MOST_LINES));
            super.visitMethod(method, nothing);
            present = outer;
            return null;
        }

        private long linesOf(MethodTree method) {
            BlockTree body = method.getBody();
            if (body == null) {
                return 0;
            }
            CompilationUnitTree unit = getCurrentPath().getCompilationUnit();
            long first = unit.getLineMap().getLineNumber(trees.getSourcePositions().getStartPosition(unit, body));
            long last = unit.getLineMap().getLineNumber(trees.getSourcePositions().getEndPosition(unit, body));
            return last - first + 1;
        }

        @Override
        public Void visitMethodInvocation(MethodInvocationTree call, Void nothing) {
            Element called = trees.getElement(new TreePath(getCurrentPath(), call.getMethodSelect()));
            String name = nameOf(called);
            if (!name.startsWith(OWN) && !name.endsWith(".<init>()")) {
                check.dueText(present + " calls " + name + ", which rule 4 lists", "true", "" + LIBRARY.contains(name));
            }
            note(name);
            return super.visitMethodInvocation(call, nothing);
        }

        @Override
        public Void visitNewClass(NewClassTree made, Void nothing) {
            String name = nameOf(trees.getElement(getCurrentPath()));
            if (!name.startsWith(OWN)) {
                String owner = name.substring(0, name.indexOf(".<init>"));
                check.dueText(present + " makes " + owner + ", which rule 6 lists", "true", "" + THROWN.contains(owner));
                check.dueText(present + " throws, but no constructor does", "false", "" + present.contains("<init>"));
            }
            note(name);
            return super.visitNewClass(made, nothing);
        }

        private void note(String called) {
            calls.computeIfAbsent(present, p -> new TreeSet<>()).add(called);
        }

        private static String nameOf(Element method) {
            return method.getEnclosingElement() + "." + method.getSimpleName() + parametersOf(method);
        }

        private static String parametersOf(Element method) {
            String whole = method.toString();
            return whole.substring(whole.indexOf('('));
        }
    }
}

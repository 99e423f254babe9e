import com.sun.source.tree.ClassTree;
import com.sun.source.tree.CompilationUnitTree;
import com.sun.source.tree.LineMap;
import com.sun.source.tree.MethodInvocationTree;
import com.sun.source.tree.MethodTree;
import com.sun.source.tree.NewClassTree;
import com.sun.source.tree.ThrowTree;
import com.sun.source.tree.Tree;
import com.sun.source.tree.VariableTree;
import com.sun.source.util.JavacTask;
import com.sun.source.util.TreePathScanner;
import com.sun.source.util.Trees;
import java.io.IOException;
import java.nio.charset.StandardCharsets;
import java.nio.file.Path;
import java.util.List;
import java.util.Map;
import java.util.Set;
import java.util.TreeMap;
import java.util.TreeSet;
import javax.lang.model.element.Element;
import javax.lang.model.element.ElementKind;
import javax.lang.model.element.Modifier;
import javax.lang.model.element.VariableElement;
import javax.tools.JavaCompiler;
import javax.tools.StandardJavaFileManager;
import javax.tools.ToolProvider;

/** The sizes of rule 11, the library of rule 4 and who calls whom, as javac itself reads the file. */
public final class ShapeTest {
    private static final Path FILE = Path.of("src/main/java/SongChoir.java");
    private static final int MOST_DEPTH = 8;
    private static final int MOST_LINES = 60;
    private static final int MOST_PARAMETERS = 7;
    private static final int MOST_CLASSES = 12;
    private static final int MOST_FIELDS = 20;
    /** The program needs no more of the library than this; rule 4 would leave it some more. */
    private static final Set<String> LIBRARY = Set.of("Math.max", "Math.min", "System.arraycopy",
        "Object.<init>", "IllegalArgumentException.<init>", "IllegalStateException.<init>",
        "IndexOutOfBoundsException.<init>");

    private static final class Reader extends TreePathScanner<Void, Void> {
        final Map<String, Set<String>> calls = new TreeMap<>();
        private final Trees trees;
        private final CompilationUnitTree unit;
        private String type = "";
        private String caller = "";
        private int classes = 0;

        Reader(Trees trees, CompilationUnitTree unit) {
            this.trees = trees;
            this.unit = unit;
        }

        @Override
        public Void visitClass(ClassTree tree, Void none) {
            String outer = type;
            String outerCaller = caller;
            type = tree.getSimpleName().toString();
            caller = type + ".<init>";
            classes++;
            Check.holds("classes up to " + type + ": " + classes, classes <= MOST_CLASSES);
            int fields = 0;
            for (Tree member : tree.getMembers()) {
                if (member instanceof VariableTree && !isStatic((VariableTree) member)) {
                    fields++;
                }
            }
            Check.holds("fields of " + type + ": " + fields, fields <= MOST_FIELDS);
            super.visitClass(tree, none);
            type = outer;
            caller = outerCaller;
            return null;
        }

        private boolean isStatic(VariableTree field) {
            return field.getModifiers().getFlags().contains(Modifier.STATIC);
        }

        @Override
        public Void visitVariable(VariableTree tree, Void none) {
            // Rule 5 leaves arrays too, but the program has none, and javac can't tell that they stay.
            if (isStatic(tree)) {
                Element e = trees.getElement(getCurrentPath());
                Check.holds("a constant: " + tree,
                    e instanceof VariableElement && ((VariableElement) e).getConstantValue() != null);
            }
            return super.visitVariable(tree, none);
        }

        @Override
        public Void visitMethod(MethodTree tree, Void none) {
            String before = caller;
            caller = type + "." + tree.getName();
            LineMap lines = unit.getLineMap();
            long first = lines.getLineNumber(trees.getSourcePositions().getStartPosition(unit, tree));
            long last = lines.getLineNumber(trees.getSourcePositions().getEndPosition(unit, tree));
            Check.holds("lines of " + caller + ": " + (last - first + 1), last - first < MOST_LINES);
            Check.holds("parameters of " + caller, tree.getParameters().size() <= MOST_PARAMETERS);
            callsOf(caller);
            super.visitMethod(tree, none);
            caller = before;
            return null;
        }

        @Override
        public Void visitMethodInvocation(MethodInvocationTree tree, Void none) {
            callsOf(caller).add(nameOf(trees.getElement(getCurrentPath())));
            return super.visitMethodInvocation(tree, none);
        }

        @Override
        public Void visitNewClass(NewClassTree tree, Void none) {
            callsOf(caller).add(nameOf(trees.getElement(getCurrentPath())));
            return super.visitNewClass(tree, none);
        }

        @Override
        public Void visitThrow(ThrowTree tree, Void none) {
            Check.holds("a throw in a constructor: " + caller, !caller.endsWith(".<init>"));
            Check.holds("a throw outside the face: " + caller, caller.startsWith("SongChoir."));
            return super.visitThrow(tree, none);
        }

        private static String nameOf(Element e) {
            return e.getEnclosingElement().getSimpleName() + "." + e.getSimpleName();
        }

        private Set<String> callsOf(String name) {
            return calls.computeIfAbsent(name, n -> new TreeSet<>());
        }
    }

    private ShapeTest() {
    }

    public static void main(String[] args) throws IOException {
        Map<String, Set<String>> calls = read().calls;
        for (Map.Entry<String, Set<String>> one : calls.entrySet()) {
            for (String name : one.getValue()) {
                Check.holds(one.getKey() + " calls " + name, calls.containsKey(name) || LIBRARY.contains(name));
            }
            int depth = depth(one.getKey(), calls, 1);
            Check.holds("calls below " + one.getKey() + ": " + depth, depth <= MOST_DEPTH);
        }
        Check.holds("the face and its parts were read", calls.size() > 60);
        Check.end();
    }

    private static Reader read() throws IOException {
        JavaCompiler javac = ToolProvider.getSystemJavaCompiler();
        try (StandardJavaFileManager files = javac.getStandardFileManager(null, null, StandardCharsets.UTF_8)) {
            JavacTask task = (JavacTask) javac.getTask(null, files, null, null, null,
                files.getJavaFileObjects(FILE));
            CompilationUnitTree unit = task.parse().iterator().next();
            task.analyze();
            Check.due("types beside the class", unit.getTypeDecls().size(), 1);
            Check.holds("no import and no package", unit.getImports().isEmpty() && unit.getPackage() == null);
            Reader reader = new Reader(Trees.instance(task), unit);
            reader.scan(unit, null);
            return reader;
        }
    }

    /** How many calls stand open at once, the first and the library's own among them. */
    private static int depth(String name, Map<String, Set<String>> calls, int ahead) {
        if (ahead > MOST_DEPTH) {
            return ahead;
        }
        int deepest = ahead;
        for (String next : calls.getOrDefault(name, Set.of())) {
            deepest = Math.max(deepest, depth(next, calls, ahead + 1));
        }
        return deepest;
    }
}

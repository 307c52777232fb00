import com.sun.source.tree.BinaryTree;
import com.sun.source.tree.ClassTree;
import com.sun.source.tree.CompilationUnitTree;
import com.sun.source.tree.MethodInvocationTree;
import com.sun.source.tree.MethodTree;
import com.sun.source.tree.NewArrayTree;
import com.sun.source.tree.NewClassTree;
import com.sun.source.tree.Tree;
import com.sun.source.tree.VariableTree;
import com.sun.source.util.JavacTask;
import com.sun.source.util.TreePathScanner;
import com.sun.source.util.Trees;
import java.io.IOException;
import java.nio.file.Path;
import java.util.ArrayList;
import java.util.HashMap;
import java.util.HashSet;
import java.util.List;
import java.util.Map;
import java.util.Set;
import javax.lang.model.element.Element;
import javax.lang.model.element.Modifier;
import javax.tools.JavaCompiler;
import javax.tools.StandardJavaFileManager;
import javax.tools.ToolProvider;

/** The rules of LANGUAGE.md that are counted or that ask what a name stands for: read from the compiler's trees. */
public final class RulesTest {
    private static final Path PROGRAM = Path.of("src/main/java/WagerQuiz.java");
    private static final int MOST_LINES = 60;
    private static final int MOST_DEEP = 8;
    private static final int MOST_CLASSES = 12;
    private static final int MOST_FIELDS = 20;
    private static final int MOST_PARAMETERS = 7;
    private static final Set<String> LIBRARY = Set.of("java.lang.Object.Object()",
            "java.lang.String.length()", "java.lang.String.charAt(int)",
            "java.lang.Math.abs(int)", "java.lang.Math.max(int,int)", "java.lang.Math.min(int,int)",
            "java.lang.Integer.bitCount(int)",
            "java.lang.System.arraycopy(java.lang.Object,int,java.lang.Object,int,int)");
    private static final Set<Tree.Kind> BANNED = Set.of(Tree.Kind.LAMBDA_EXPRESSION, Tree.Kind.MEMBER_REFERENCE,
            Tree.Kind.THROW, Tree.Kind.TRY, Tree.Kind.CATCH, Tree.Kind.SYNCHRONIZED, Tree.Kind.ASSERT,
            Tree.Kind.SWITCH_EXPRESSION, Tree.Kind.BINDING_PATTERN, Tree.Kind.ANNOTATION, Tree.Kind.INSTANCE_OF,
            Tree.Kind.IMPORT, Tree.Kind.PACKAGE);
    private static final Check CHECK = new Check();

    private final CompilationUnitTree unit;
    private final Trees trees;
    private final Map<Element, Set<Element>> calls = new HashMap<>();
    private int classes;

    private RulesTest(CompilationUnitTree unit, Trees trees) {
        this.unit = unit;
        this.trees = trees;
    }

    public static void main(String[] args) throws IOException {
        JavaCompiler compiler = ToolProvider.getSystemJavaCompiler();
        try (StandardJavaFileManager files = compiler.getStandardFileManager(null, null, null)) {
            JavacTask task = (JavacTask) compiler.getTask(null, files, null, List.of("-proc:none"), null,
                    files.getJavaFileObjects(PROGRAM));
            CompilationUnitTree unit = task.parse().iterator().next();
            task.analyze();
            new RulesTest(unit, Trees.instance(task)).test();
        }
        CHECK.finish();
    }

    private void test() {
        new Scanner().scan(unit, null);
        CHECK.holds("some twelve classes at most, not " + classes, classes <= MOST_CLASSES);
        for (Element method : List.copyOf(calls.keySet())) {
            List<Element> chain = longestChain(method, new HashSet<>());
            CHECK.holds(method + " calls at most eight deep: " + chain, chain.size() <= MOST_DEEP);
        }
    }

    /** The longest chain of calls that stand open at once; it is endless, and too long therefore, if it recurs. */
    private List<Element> longestChain(Element method, Set<Element> open) {
        List<Element> longest = new ArrayList<>();
        if (open.add(method)) {
            for (Element called : calls.getOrDefault(method, Set.of())) {
                List<Element> chain = longestChain(called, open);
                longest = chain.size() > longest.size() ? chain : longest;
            }
            open.remove(method);
        } else {
            CHECK.holds(method + " is no recursion", false);
        }
        List<Element> chain = new ArrayList<>(List.of(method));
        chain.addAll(longest);
        return chain;
    }

    private int lines(Tree tree) {
        long start = trees.getSourcePositions().getStartPosition(unit, tree);
        long end = trees.getSourcePositions().getEndPosition(unit, tree);
        return (int) (unit.getLineMap().getLineNumber(end) - unit.getLineMap().getLineNumber(start)) + 1;
    }

    private final class Scanner extends TreePathScanner<Void, Void> {
        private Element method;
        // A class's constructors run its initialisers, so they are those who make what an initialiser makes.
        private Element inClass;

        @Override
        public Void scan(Tree tree, Void nothing) {
            if (tree != null) {
                CHECK.holds("no " + tree.getKind() + " in " + tree, !BANNED.contains(tree.getKind()));
            }
            return super.scan(tree, nothing);
        }

        @Override
        public Void visitClass(ClassTree tree, Void nothing) {
            Element outer = inClass;
            inClass = trees.getElement(getCurrentPath());
            classes++;
            long fields = tree.getMembers().stream().filter(member -> member instanceof VariableTree
                    && !((VariableTree) member).getModifiers().getFlags().contains(Modifier.STATIC)).count();
            CHECK.holds(tree.getSimpleName() + " has " + fields + " fields", fields <= MOST_FIELDS);
            super.visitClass(tree, nothing);
            inClass = outer;
            return null;
        }

        @Override
        public Void visitMethod(MethodTree tree, Void nothing) {
            method = trees.getElement(getCurrentPath());
            calls.computeIfAbsent(method, m -> new HashSet<>());
            CHECK.holds(method + " has " + lines(tree) + " lines", lines(tree) <= MOST_LINES);
            CHECK.holds(method + " has few parameters", tree.getParameters().size() <= MOST_PARAMETERS);
            super.visitMethod(tree, nothing);
            method = null;
            return null;
        }

        @Override
        public Void visitMethodInvocation(MethodInvocationTree tree, Void nothing) {
            noteCall(trees.getElement(getCurrentPath()));
            return super.visitMethodInvocation(tree, nothing);
        }

        @Override
        public Void visitNewClass(NewClassTree tree, Void nothing) {
            noteCall(trees.getElement(getCurrentPath()));
            making(tree);
            return super.visitNewClass(tree, nothing);
        }

        @Override
        public Void visitNewArray(NewArrayTree tree, Void nothing) {
            making(tree);
            return super.visitNewArray(tree, nothing);
        }

        @Override
        public Void visitBinary(BinaryTree tree, Void nothing) {
            String type = String.valueOf(trees.getTypeMirror(getCurrentPath()));
            CHECK.holds(tree + " joins no text", !type.equals("java.lang.String"));
            return super.visitBinary(tree, nothing);
        }

        private void noteCall(Element called) {
            Element owner = called.getEnclosingElement();
            boolean own = String.valueOf(owner).startsWith("WagerQuiz");
            CHECK.holds("the library's " + owner + "." + called, own || LIBRARY.contains(owner + "." + called));
            for (Element caller : callers()) {
                calls.computeIfAbsent(caller, m -> new HashSet<>()).add(called);
            }
        }

        private List<Element> callers() {
            if (method != null) {
                return List.of(method);
            }
            List<Element> constructors = new ArrayList<>();
            for (Element member : inClass.getEnclosedElements()) {
                if (member.getKind() == javax.lang.model.element.ElementKind.CONSTRUCTOR) {
                    constructors.add(member);
                }
            }
            return constructors;
        }

        /** All that a run makes is counted, so calls use the rows again that the constructors make. */
        private void making(Tree tree) {
            boolean inConstructor = method == null || method.getSimpleName().contentEquals("<init>");
            CHECK.holds(tree + " stands in a constructor, not in " + method, inConstructor);
        }
    }
}

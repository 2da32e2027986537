import com.sun.source.tree.ClassTree;
import com.sun.source.tree.CompilationUnitTree;
import com.sun.source.tree.IdentifierTree;
import com.sun.source.tree.InstanceOfTree;
import com.sun.source.tree.LambdaExpressionTree;
import com.sun.source.tree.MemberReferenceTree;
import com.sun.source.tree.MethodInvocationTree;
import com.sun.source.tree.MethodTree;
import com.sun.source.tree.NewArrayTree;
import com.sun.source.tree.NewClassTree;
import com.sun.source.tree.Tree;
import com.sun.source.tree.TypeCastTree;
import com.sun.source.util.JavacTask;
import com.sun.source.util.SourcePositions;
import com.sun.source.util.TreePath;
import com.sun.source.util.TreePathScanner;
import com.sun.source.util.Trees;
import java.io.File;
import java.util.HashMap;
import java.util.LinkedHashSet;
import java.util.List;
import java.util.Map;
import java.util.Set;
import java.util.TreeSet;
import javax.lang.model.element.Element;
import javax.lang.model.element.ElementKind;
import javax.lang.model.element.Modifier;
import javax.tools.JavaCompiler;
import javax.tools.StandardJavaFileManager;
import javax.tools.ToolProvider;

/** What of ../shared/LANGUAGE.md the compiler's own parser can show: who calls whom, what is made, and where. */
public final class TreeTest {
    private static final String SOURCE = "src/main/java/AloneIsAQuantity.java";
    private static final int DEEPEST = 8;
    private static final int LONGEST = 60;
    private static final int MOST_PARAMETERS = 7;
    private static final int MOST_CLASSES = 12;
    /** What the program may call that it does not hold itself, out of rule 4. */
    private static final Set<String> LIBRARY = Set.of("String.length", "String.charAt", "String.isEmpty", "Math.max",
        "Math.min", "Math.abs", "Integer.bitCount");

    private static int wrong = 0;
    private final Map<String, Set<String>> calls = new HashMap<>();
    private final Set<String> face = new TreeSet<>();
    private final Set<String> classes = new TreeSet<>();
    private int deepest = 0;

    private TreeTest() {
    }

    private static void must(boolean is, String what) {
        if (!is) {
            wrong++;
            System.out.println("not so: " + what);
        }
    }

    public static void main(String[] args) throws Exception {
        TreeTest test = new TreeTest();
        test.look();
        System.out.println("TreeTest: " + test.classes.size() + " classes, " + test.calls.size() + " methods, calls "
            + test.deepest + " deep, " + wrong + " wrong");
        if (wrong > 0) {
            System.exit(1);
        }
    }

    private void look() throws Exception {
        JavaCompiler compiler = ToolProvider.getSystemJavaCompiler();
        try (StandardJavaFileManager files = compiler.getStandardFileManager(null, null, null)) {
            JavacTask task = (JavacTask) compiler.getTask(null, files, null, List.of("-proc:none", "-Xlint:all"), null,
                files.getJavaFileObjects(new File(SOURCE)));
            Trees trees = Trees.instance(task);
            for (CompilationUnitTree unit : task.parse()) {
                task.analyze();
                new Looker(trees, unit).scan(unit, null);
            }
        }
        must(face.size() == 38, "38 calls in the face, there are " + face.size());
        must(classes.size() <= MOST_CLASSES, "some twelve classes, there are " + classes.size());
        for (String call : face) {
            descend(call, new LinkedHashSet<>());
        }
    }

    /** Follows each way that calls can go; a method that is on its own way would be a recursion. */
    private void descend(String method, LinkedHashSet<String> way) {
        if (!way.add(method)) {
            must(false, "no recursion: " + way + " calls " + method);
            return;
        }
        deepest = Math.max(deepest, way.size());
        must(way.size() <= DEEPEST, "eight deep: " + way);
        for (String called : calls.getOrDefault(method, Set.of())) {
            descend(called, way);
        }
        way.remove(method);
    }

    private final class Looker extends TreePathScanner<Void, Void> {
        private final Trees trees;
        private final CompilationUnitTree unit;
        private String within = "";

        Looker(Trees trees, CompilationUnitTree unit) {
            this.trees = trees;
            this.unit = unit;
        }

        private String nameOf(Element e) {
            return e.getEnclosingElement().getSimpleName() + "." + e.getSimpleName();
        }

        private Element elementOf(Tree tree) {
            return trees.getElement(new TreePath(getCurrentPath(), tree));
        }

        @Override
        public Void visitClass(ClassTree tree, Void none) {
            Element e = trees.getElement(getCurrentPath());
            boolean outmost = e.getEnclosingElement().getKind() == ElementKind.PACKAGE;
            must(outmost || e.getModifiers().contains(Modifier.STATIC), e + " is static");
            must(outmost || e.getEnclosingElement().getKind() == ElementKind.CLASS, e + " is in no method");
            classes.add(e.toString());
            return super.visitClass(tree, none);
        }

        @Override
        public Void visitMethod(MethodTree tree, Void none) {
            Element e = trees.getElement(getCurrentPath());
            String before = within;
            within = nameOf(e);
            boolean open = e.getModifiers().contains(Modifier.PUBLIC) && e.getKind() == ElementKind.METHOD;
            if (open) {
                must(face.add(within), within + " stands once");
            }
            must(calls.put(within, new TreeSet<>()) == null || e.getKind() == ElementKind.CONSTRUCTOR,
                within + " stands once");
            must(tree.getParameters().size() <= MOST_PARAMETERS, within + " takes seven at most");
            SourcePositions places = trees.getSourcePositions();
            long first = unit.getLineMap().getLineNumber(places.getStartPosition(unit, tree));
            long last = unit.getLineMap().getLineNumber(places.getEndPosition(unit, tree));
            must(last - first < LONGEST, within + " is short");
            super.visitMethod(tree, none);
            within = before;
            return null;
        }

        @Override
        public Void visitMethodInvocation(MethodInvocationTree tree, Void none) {
            Element called = elementOf(tree.getMethodSelect());
            String name = called == null ? "?" : nameOf(called);
            boolean own = called != null && isOwn(called);
            // A constructor's call of the one above it is nothing that the program writes.
            if (!name.endsWith(".<init>")) {
                must(own || LIBRARY.contains(name), "no call of " + name + " in " + within);
                must(!within.isEmpty(), "no call where nothing stands: " + tree);
                calls.getOrDefault(within, new TreeSet<>()).add(name);
            }
            return super.visitMethodInvocation(tree, none);
        }

        private boolean isOwn(Element called) {
            for (Element e = called; e != null; e = e.getEnclosingElement()) {
                if (e.getSimpleName().contentEquals("AloneIsAQuantity")) {
                    return true;
                }
            }
            return false;
        }

        private boolean isWithObject() {
            return within.isEmpty() || within.endsWith(".<init>");
        }

        @Override
        public Void visitNewClass(NewClassTree tree, Void none) {
            must(isWithObject(), "all is made with the object: " + tree + " in " + within);
            must(tree.getClassBody() == null, "no class without a name: " + tree);
            return super.visitNewClass(tree, none);
        }

        @Override
        public Void visitNewArray(NewArrayTree tree, Void none) {
            must(isWithObject(), "all is made with the object: " + tree + " in " + within);
            return super.visitNewArray(tree, none);
        }

        @Override
        public Void visitIdentifier(IdentifierTree tree, Void none) {
            // What is made hands out nothing of itself: "this" stands only where a field is meant.
            boolean bare = tree.getName().contentEquals("this")
                && getCurrentPath().getParentPath().getLeaf().getKind() != Tree.Kind.MEMBER_SELECT;
            must(!bare, "no bare this in " + within);
            return super.visitIdentifier(tree, none);
        }

        @Override
        public Void visitTypeCast(TypeCastTree tree, Void none) {
            must(false, "no cast: " + tree);
            return super.visitTypeCast(tree, none);
        }

        @Override
        public Void visitInstanceOf(InstanceOfTree tree, Void none) {
            must(false, "no kind asked for: " + tree);
            return super.visitInstanceOf(tree, none);
        }

        @Override
        public Void visitLambdaExpression(LambdaExpressionTree tree, Void none) {
            must(false, "no lambda: " + tree);
            return super.visitLambdaExpression(tree, none);
        }

        @Override
        public Void visitMemberReference(MemberReferenceTree tree, Void none) {
            must(false, "no method reference: " + tree);
            return super.visitMemberReference(tree, none);
        }
    }
}

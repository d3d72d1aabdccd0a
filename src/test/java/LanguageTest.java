import com.sun.source.tree.ClassTree;
import com.sun.source.tree.CompilationUnitTree;
import com.sun.source.tree.ImportTree;
import com.sun.source.tree.MethodInvocationTree;
import com.sun.source.tree.MethodTree;
import com.sun.source.tree.NewArrayTree;
import com.sun.source.tree.NewClassTree;
import com.sun.source.tree.Tree;
import com.sun.source.tree.VariableTree;
import com.sun.source.util.JavacTask;
import com.sun.source.util.TreePathScanner;
import com.sun.source.util.Trees;
import java.io.IOException;
import java.nio.file.Path;
import java.util.EnumSet;
import java.util.LinkedHashMap;
import java.util.LinkedHashSet;
import java.util.List;
import java.util.Map;
import java.util.Set;
import javax.lang.model.element.Element;
import javax.lang.model.element.ElementKind;
import javax.lang.model.element.Modifier;
import javax.lang.model.element.VariableElement;
import javax.tools.JavaCompiler;
import javax.tools.StandardJavaFileManager;
import javax.tools.ToolProvider;

/** The rules of LANGUAGE.md that can be seen in the source, by the compiler's own reading of it. */
public final class LanguageTest extends TreePathScanner<Void, Void> {
    private static final String SOURCE = "src/main/java/PressSheets.java";
    /** What the class takes of the library; rule 4 lists more. */
    private static final Set<String> LIBRARY = Set.of("java.util.Arrays.fill", "java.lang.System.arraycopy",
        "java.lang.Integer.bitCount", "java.lang.Math.max", "java.lang.Math.min");
    /** Texts, fractions and casts are not all ruled out, but the class needs none. */
    private static final Set<Tree.Kind> BANNED = EnumSet.of(Tree.Kind.THROW, Tree.Kind.TRY, Tree.Kind.CATCH,
        Tree.Kind.SYNCHRONIZED, Tree.Kind.ASSERT, Tree.Kind.LAMBDA_EXPRESSION, Tree.Kind.MEMBER_REFERENCE,
        Tree.Kind.STRING_LITERAL, Tree.Kind.DOUBLE_LITERAL, Tree.Kind.FLOAT_LITERAL, Tree.Kind.TYPE_CAST,
        Tree.Kind.PACKAGE, Tree.Kind.ANNOTATION);
    private static final int MOST_LINES = 60, MOST_PARAMETERS = 7, MOST_DEPTH = 8, MOST_CLASSES = 12, MOST_FIELDS = 20;

    private final Trees trees;
    private final CompilationUnitTree unit;
    /** Of each method: the methods of the class that it calls. */
    private final Map<Element, Set<Element>> calls = new LinkedHashMap<>();
    private Element method;
    private int classes;

    private LanguageTest(Trees trees, CompilationUnitTree unit) {
        this.trees = trees;
        this.unit = unit;
    }

    /** .ci/run starts the tests in the project's folder. */
    public static void main(String[] args) throws IOException {
        JavaCompiler compiler = ToolProvider.getSystemJavaCompiler();
        try (StandardJavaFileManager files = compiler.getStandardFileManager(null, null, null)) {
            JavacTask task = (JavacTask) compiler.getTask(null, files, null, List.of("-proc:none"), null,
                files.getJavaFileObjects(Path.of(SOURCE)));
            CompilationUnitTree unit = task.parse().iterator().next();
            task.analyze();
            LanguageTest test = new LanguageTest(Trees.instance(task), unit);
            test.scan(unit, null);
            test.whole();
        }
        Check.finish();
    }

    private void holds(String rule, Tree at, boolean is) {
        long line = unit.getLineMap().getLineNumber(trees.getSourcePositions().getStartPosition(unit, at));
        Check.holds("rule " + rule + ", line " + line, is);
    }

    private static boolean isStaticOne(Element e) {
        return e.getModifiers().contains(Modifier.STATIC);
    }

    @Override
    public Void scan(Tree tree, Void none) {
        if (tree != null) {
            holds("3, 4, 6: no " + tree.getKind(), tree, !BANNED.contains(tree.getKind()));
        }
        return super.scan(tree, none);
    }

    @Override
    public Void visitImport(ImportTree tree, Void none) {
        holds("4: imports", tree, tree.getQualifiedIdentifier().toString().equals("java.util.Arrays"));
        return super.visitImport(tree, none);
    }

    @Override
    public Void visitClass(ClassTree tree, Void none) {
        Element e = trees.getElement(getCurrentPath());
        boolean inside = e.getEnclosingElement().getKind() == ElementKind.CLASS;
        classes++;
        holds("2: no local class", tree, inside || classes == 1);
        holds("2: classes inside are static", tree, !inside || isStaticOne(e));
        holds("1: classes inside are not public", tree, !inside || !e.getModifiers().contains(Modifier.PUBLIC));
        int fields = 0;
        for (Element member : e.getEnclosedElements()) {
            fields += member.getKind() == ElementKind.FIELD && !isStaticOne(member) ? 1 : 0;
        }
        for (Tree member : tree.getMembers()) {
            holds("5: no initialiser block", member, member.getKind() != Tree.Kind.BLOCK);
        }
        holds("11: fields", tree, fields <= MOST_FIELDS);
        return super.visitClass(tree, none);
    }

    @Override
    public Void visitVariable(VariableTree tree, Void none) {
        Element e = trees.getElement(getCurrentPath());
        if (e instanceof VariableElement && e.getKind() == ElementKind.FIELD && isStaticOne(e)) {
            holds("5: static fields are constants", tree, ((VariableElement) e).getConstantValue() != null);
        }
        return super.visitVariable(tree, none);
    }

    @Override
    public Void visitMethod(MethodTree tree, Void none) {
        method = trees.getElement(getCurrentPath());
        calls.putIfAbsent(method, new LinkedHashSet<>());
        holds("11: parameters", tree, tree.getParameters().size() <= MOST_PARAMETERS);
        long from = unit.getLineMap().getLineNumber(trees.getSourcePositions().getStartPosition(unit, tree));
        long to = unit.getLineMap().getLineNumber(trees.getSourcePositions().getEndPosition(unit, tree));
        holds("11: lines of a method", tree, to - from < MOST_LINES);
        super.visitMethod(tree, none);
        method = null;
        return null;
    }

    @Override
    public Void visitMethodInvocation(MethodInvocationTree tree, Void none) {
        Element called = trees.getElement(getCurrentPath());
        String owner = called.getEnclosingElement().toString();
        if (owner.startsWith("PressSheets")) {
            holds("12: no call from a field", tree, method != null);
            calls.computeIfAbsent(method, m -> new LinkedHashSet<>()).add(called);
        } else if (called.getKind() == ElementKind.METHOD) {
            holds("4: " + owner + "." + called.getSimpleName(), tree, LIBRARY.contains(owner + "." + called.getSimpleName()));
        }
        return super.visitMethodInvocation(tree, none);
    }

    @Override
    public Void visitNewClass(NewClassTree tree, Void none) {
        holds("2: no anonymous class", tree, tree.getClassBody() == null);
        holds("12: made in a constructor", tree, isMaking());
        return super.visitNewClass(tree, none);
    }

    @Override
    public Void visitNewArray(NewArrayTree tree, Void none) {
        holds("12: made in a constructor", tree, isMaking());
        return super.visitNewArray(tree, none);
    }

    private boolean isMaking() {
        return method == null || method.getKind() == ElementKind.CONSTRUCTOR;
    }

    /** What is seen only when all has been read: names, recursion, how deep calls go. */
    private void whole() {
        Check.holds("rule 11: classes", classes <= MOST_CLASSES);
        Check.holds("methods were seen", calls.size() > 37);
        for (Element m : calls.keySet()) {
            boolean again = calls.get(m).remove(m);
            Set<Modifier> how = m.getModifiers();
            Check.holds("rule 8: " + m, !again || how.contains(Modifier.PRIVATE) && how.contains(Modifier.STATIC));
            Check.holds("rule 1: " + m, how.contains(Modifier.PUBLIC) || !isNameOfFace(m));
        }
        int deepest = 0;
        for (Element m : calls.keySet()) {
            deepest = Math.max(deepest, depth(m, 1));
        }
        System.out.println("calls go " + deepest + " deep");
        Check.holds("rule 11: calls that are no recursion", deepest <= MOST_DEPTH);
    }

    private boolean isNameOfFace(Element m) {
        for (Element other : calls.keySet()) {
            boolean ofFace = other.getKind() == ElementKind.METHOD && other.getModifiers().contains(Modifier.PUBLIC);
            if (ofFace && other.getSimpleName().equals(m.getSimpleName())) {
                return true;
            }
        }
        return false;
    }

    /** Methods that call one another in a ring would go on: they are cut off, and seen as too deep. */
    private int depth(Element m, int above) {
        int deepest = 0;
        if (above <= MOST_DEPTH) {
            for (Element next : calls.getOrDefault(m, Set.of())) {
                deepest = Math.max(deepest, depth(next, above + 1));
            }
        }
        return deepest + 1;
    }
}

import com.sun.source.tree.ClassTree;
import com.sun.source.tree.CompilationUnitTree;
import com.sun.source.tree.ExpressionTree;
import com.sun.source.tree.ForLoopTree;
import com.sun.source.tree.LineMap;
import com.sun.source.tree.MethodInvocationTree;
import com.sun.source.tree.MethodTree;
import com.sun.source.tree.NewArrayTree;
import com.sun.source.tree.NewClassTree;
import com.sun.source.tree.Tree;
import com.sun.source.tree.VariableTree;
import com.sun.source.tree.WhileLoopTree;
import com.sun.source.util.JavacTask;
import com.sun.source.util.SourcePositions;
import com.sun.source.util.TreePath;
import com.sun.source.util.TreePathScanner;
import com.sun.source.util.Trees;
import java.io.IOException;
import java.nio.file.Path;
import java.util.ArrayList;
import java.util.HashMap;
import java.util.HashSet;
import java.util.LinkedHashMap;
import java.util.List;
import java.util.Map;
import java.util.Set;
import javax.lang.model.element.Element;
import javax.lang.model.element.ElementKind;
import javax.lang.model.element.Modifier;
import javax.lang.model.element.TypeElement;
import javax.tools.JavaCompiler;
import javax.tools.StandardJavaFileManager;
import javax.tools.ToolProvider;

/** Rules of LANGUAGE.md that are seen in what calls what, what is made where, and how great things are. */
public final class ShapeTest extends TreePathScanner<Void, Void> {
    private static final Set<String> LIBRARY = Set.of("java.lang.Math.min", "java.lang.Math.max",
        "java.lang.Integer.bitCount", "java.lang.System.arraycopy", "java.lang.String.length", "java.lang.String.charAt");
    private static final Set<String> THROWN = Set.of("java.lang.IllegalArgumentException",
        "java.util.NoSuchElementException");
    private static final Set<String> TYPES = Set.of("int", "long", "boolean", "char", "String", "int[]", "void");
    private static final int DEEPEST = 8;

    private final Trees trees;
    private final CompilationUnitTree unit;
    private final SourcePositions places;
    private final Set<String> own = new HashSet<>();
    private final Map<Element, Set<Element>> calls = new LinkedHashMap<>();
    private final Map<Element, Integer> depths = new HashMap<>();
    private Element method;
    private int loops = 0;

    private ShapeTest(Trees trees, CompilationUnitTree unit) {
        this.trees = trees;
        this.unit = unit;
        places = trees.getSourcePositions();
    }

    public static void main(String[] args) throws IOException {
        JavaCompiler compiler = ToolProvider.getSystemJavaCompiler();
        try (StandardJavaFileManager files = compiler.getStandardFileManager(null, null, null)) {
            JavacTask task = (JavacTask) compiler.getTask(null, files, null, List.of("-proc:none"), null,
                files.getJavaFileObjects(Path.of("src/main/java/PaidByHeart.java")));
            CompilationUnitTree unit = task.parse().iterator().next();
            task.analyze();
            ShapeTest test = new ShapeTest(Trees.instance(task), unit);
            Pen.due("one class in the file", 1, () -> unit.getTypeDecls().size());
            test.classes();
            test.scan(unit, null);
            test.depth();
        }
        Pen.end();
    }

    private void classes() {
        new TreePathScanner<Void, Void>() {
            @Override
            public Void visitClass(ClassTree tree, Void none) {
                own.add(tree.getSimpleName().toString());
                return super.visitClass(tree, none);
            }
        }.scan(unit, null);
        Pen.due("some twelve classes", 1, () -> own.size() <= 12 ? 1 : 0);
    }

    @Override
    public Void visitClass(ClassTree tree, Void none) {
        long fields = tree.getMembers().stream()
            .filter(m -> m instanceof VariableTree && !((VariableTree) m).getModifiers().getFlags().contains(Modifier.STATIC))
            .count();
        Pen.due("some twenty fields of " + tree.getSimpleName(), 1, () -> fields <= 20 ? 1 : 0);
        return super.visitClass(tree, none);
    }

    @Override
    public Void visitVariable(VariableTree tree, Void none) {
        String type = tree.getType().toString();
        Pen.due("type " + type, 1, () -> TYPES.contains(type) || own.contains(type) ? 1 : 0);
        return super.visitVariable(tree, none);
    }

    @Override
    public Void visitMethod(MethodTree tree, Void none) {
        Element outer = method;
        method = trees.getElement(getCurrentPath());
        calls.computeIfAbsent(method, m -> new HashSet<>());
        LineMap lines = unit.getLineMap();
        long length = lines.getLineNumber(places.getEndPosition(unit, tree))
            - lines.getLineNumber(places.getStartPosition(unit, tree)) + 1;
        Pen.due("some sixty lines of " + tree.getName(), 1, () -> length <= 60 ? 1 : 0);
        boolean ofFace = method.getModifiers().contains(Modifier.PUBLIC);
        Pen.due("parameters of " + tree.getName(), 1, () -> ofFace || tree.getParameters().size() <= 7 ? 1 : 0);
        super.visitMethod(tree, none);
        method = outer;
        return null;
    }

    @Override
    public Void visitMethodInvocation(MethodInvocationTree tree, Void none) {
        ExpressionTree named = tree.getMethodSelect();
        Element called = trees.getElement(new TreePath(getCurrentPath(), named));
        TypeElement owner = (TypeElement) called.getEnclosingElement();
        // an own class's constructor calls Object's
        if (called.getKind() == ElementKind.METHOD) {
            if (isOwn(owner)) {
                calls.get(method).add(called);
            } else {
                String name = owner.getQualifiedName() + "." + called.getSimpleName();
                Pen.due("library call " + name, 1, () -> LIBRARY.contains(name) ? 1 : 0);
            }
        }
        return super.visitMethodInvocation(tree, none);
    }

    private boolean isOwn(TypeElement type) {
        return type.getQualifiedName().toString().matches("PaidByHeart(\\..*)?");
    }

    /** Only a constructor, or a field on its account, makes objects; methods make what they throw, and nothing else. */
    @Override
    public Void visitNewClass(NewClassTree tree, Void none) {
        Element made = trees.getElement(getCurrentPath());
        TypeElement type = (TypeElement) made.getEnclosingElement();
        boolean thrown = getCurrentPath().getParentPath().getLeaf().getKind() == Tree.Kind.THROW;
        if (thrown) {
            Pen.due("throw of " + type, 1, () -> THROWN.contains(type.getQualifiedName().toString()) ? 1 : 0);
            Pen.due("no throw in a constructor", 1, () -> method.getKind() == ElementKind.METHOD ? 1 : 0);
        } else {
            Pen.due("new " + type + " in a constructor, once", 1, () -> isOwn(type) && madeOnce() ? 1 : 0);
        }
        return super.visitNewClass(tree, none);
    }

    @Override
    public Void visitNewArray(NewArrayTree tree, Void none) {
        Pen.due("rows made by constructors alone: " + tree, 1, () -> madeOnce() ? 1 : 0);
        return super.visitNewArray(tree, none);
    }

    private boolean madeOnce() {
        return (method == null || method.getKind() == ElementKind.CONSTRUCTOR) && loops == 0;
    }

    @Override
    public Void visitForLoop(ForLoopTree tree, Void none) {
        Pen.due("a loop's end", 1, () -> tree.getCondition() != null ? 1 : 0);
        loops++;
        super.visitForLoop(tree, none);
        loops--;
        return null;
    }

    @Override
    public Void visitWhileLoop(WhileLoopTree tree, Void none) {
        loops++;
        super.visitWhileLoop(tree, none);
        loops--;
        return null;
    }

    /** Methods that call one another count as one, for calls that are no recursion go at most eight deep. */
    private void depth() {
        for (Element m : calls.keySet()) {
            int deep = depthOf(m);
            Pen.due(m.getEnclosingElement().getSimpleName() + "." + m + " is deep by " + deep, 1,
                () -> deep <= DEEPEST ? 1 : 0);
        }
        System.out.println("calls go deep by " + depths.values().stream().mapToInt(d -> d).max().orElse(0));
    }

    private int depthOf(Element m) {
        Integer known = depths.get(m);
        if (known != null) return known;
        List<Element> ring = ring(m);
        if (ring.size() > 1 || calls.get(m).contains(m)) {
            for (Element r : ring) {
                Pen.due("recursion by a private method " + r, 1,
                    () -> r.getModifiers().contains(Modifier.PRIVATE) ? 1 : 0);
            }
        }
        int deepest = 0;
        for (Element r : ring) {
            for (Element next : calls.get(r)) {
                if (!ring.contains(next)) deepest = Math.max(deepest, depthOf(next));
            }
        }
        for (Element r : ring) depths.put(r, deepest + 1);
        return deepest + 1;
    }

    /** The method, and all that it calls by any way and that call it again. */
    private List<Element> ring(Element m) {
        List<Element> ring = new ArrayList<>();
        ring.add(m);
        for (Element other : reached(m)) {
            if (!other.equals(m) && reached(other).contains(m)) ring.add(other);
        }
        return ring;
    }

    private Set<Element> reached(Element from) {
        Set<Element> seen = new HashSet<>();
        List<Element> open = new ArrayList<>(calls.get(from));
        while (!open.isEmpty()) {
            Element next = open.remove(open.size() - 1);
            if (seen.add(next)) open.addAll(calls.getOrDefault(next, Set.of()));
        }
        return seen;
    }
}

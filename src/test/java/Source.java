import com.sun.source.tree.CompilationUnitTree;
import com.sun.source.tree.ExpressionTree;
import com.sun.source.tree.MethodInvocationTree;
import com.sun.source.tree.MethodTree;
import com.sun.source.tree.Tree;
import com.sun.source.util.JavacTask;
import com.sun.source.util.TreePath;
import com.sun.source.util.TreePathScanner;
import com.sun.source.util.Trees;
import java.io.File;
import java.io.IOException;
import java.util.ArrayList;
import java.util.HashMap;
import java.util.HashSet;
import java.util.LinkedHashSet;
import java.util.List;
import java.util.Map;
import java.util.Set;
import java.util.function.BiConsumer;
import javax.lang.model.element.Element;
import javax.lang.model.element.ElementKind;
import javax.lang.model.type.TypeMirror;
import javax.tools.JavaCompiler;
import javax.tools.StandardJavaFileManager;
import javax.tools.ToolProvider;

/** The class's source as the compiler reads it: its trees, what their names mean, and who calls whom. */
final class Source {
    private final CompilationUnitTree unit;
    private final Trees trees;
    private final Map<Element, Set<Element>> calls = new HashMap<>();

    Source(String file) throws IOException {
        JavaCompiler compiler = ToolProvider.getSystemJavaCompiler();
        StandardJavaFileManager files = compiler.getStandardFileManager(null, null, null);
        JavacTask task = (JavacTask) compiler.getTask(null, files, null, List.of("-proc:none"), null,
                files.getJavaFileObjects(new File(file)));
        unit = task.parse().iterator().next();
        task.analyze();
        trees = Trees.instance(task);
        eachTree((tree, path) -> {
            if (tree instanceof MethodInvocationTree) {
                noteCall(path);
            }
        });
    }

    CompilationUnitTree unit() {
        return unit;
    }

    void eachTree(BiConsumer<Tree, TreePath> action) {
        new TreePathScanner<Void, Void>() {
            @Override
            public Void scan(Tree tree, Void nothing) {
                if (tree != null) {
                    action.accept(tree, getCurrentPath() == null ? null : new TreePath(getCurrentPath(), tree));
                }
                return super.scan(tree, nothing);
            }
        }.scan(new TreePath(unit), null);
    }

    Element element(TreePath path) {
        return trees.getElement(path);
    }

    TypeMirror type(TreePath path) {
        return trees.getTypeMirror(path);
    }

    /** What a part of this tree means. */
    Element element(TreePath path, ExpressionTree part) {
        return trees.getElement(new TreePath(path, part));
    }

    long lineOf(Tree tree) {
        return unit.getLineMap().getLineNumber(trees.getSourcePositions().getStartPosition(unit, tree));
    }

    long linesOf(Tree tree) {
        long end = trees.getSourcePositions().getEndPosition(unit, tree);
        return unit.getLineMap().getLineNumber(end) - lineOf(tree) + 1;
    }

    /** The method in which a tree stands; null in a field. */
    Element methodAround(TreePath path) {
        for (TreePath at = path.getParentPath(); at != null; at = at.getParentPath()) {
            if (at.getLeaf() instanceof MethodTree) {
                return element(at);
            }
        }
        return null;
    }

    /** Own means: of the class or of one inside it. */
    boolean isOwn(Element element) {
        Element outermost = element;
        while (outermost.getEnclosingElement() != null
                && outermost.getEnclosingElement().getKind() != ElementKind.PACKAGE) {
            outermost = outermost.getEnclosingElement();
        }
        return outermost.getSimpleName().contentEquals("BranchingStory");
    }

    private void noteCall(TreePath path) {
        Element caller = methodAround(path);
        Element called = element(path);
        if (caller != null && called != null) {
            calls.computeIfAbsent(caller, key -> new LinkedHashSet<>()).add(called);
        }
    }

    /** How many methods, the library's too, stand open at once at most from this one on; names a circle if it meets one. */
    int depth(Element method, Set<String> circles) {
        return depth(method, new ArrayList<>(), new HashMap<>(), circles);
    }

    private int depth(Element method, List<Element> open, Map<Element, Integer> known, Set<String> circles) {
        if (open.contains(method)) {
            circles.add(method.toString());
            return 0;
        }
        if (known.containsKey(method)) {
            return known.get(method);
        }
        open.add(method);
        int deepest = 0;
        for (Element called : calls.getOrDefault(method, new HashSet<>())) {
            deepest = Math.max(deepest, depth(called, open, known, circles));
        }
        open.remove(open.size() - 1);
        known.put(method, deepest + 1);
        return deepest + 1;
    }
}

import com.sun.source.tree.AssignmentTree;
import com.sun.source.tree.BinaryTree;
import com.sun.source.tree.ClassTree;
import com.sun.source.tree.CompoundAssignmentTree;
import com.sun.source.tree.ExpressionStatementTree;
import com.sun.source.tree.ExpressionTree;
import com.sun.source.tree.ForLoopTree;
import com.sun.source.tree.IdentifierTree;
import com.sun.source.tree.ImportTree;
import com.sun.source.tree.LiteralTree;
import com.sun.source.tree.MethodInvocationTree;
import com.sun.source.tree.MethodTree;
import com.sun.source.tree.NewClassTree;
import com.sun.source.tree.ThrowTree;
import com.sun.source.tree.Tree;
import com.sun.source.tree.Tree.Kind;
import com.sun.source.tree.TypeCastTree;
import com.sun.source.tree.UnaryTree;
import com.sun.source.tree.VariableTree;
import com.sun.source.util.TreePath;
import com.sun.source.util.TreeScanner;
import java.util.EnumSet;
import java.util.List;
import java.util.Set;
import java.util.TreeSet;
import javax.lang.model.element.Element;
import javax.lang.model.element.ElementKind;
import javax.lang.model.element.Modifier;
import javax.lang.model.element.VariableElement;
import javax.lang.model.type.ArrayType;
import javax.lang.model.type.DeclaredType;
import javax.lang.model.type.TypeKind;
import javax.lang.model.type.TypeMirror;

/** The rules of LANGUAGE.md, as far as the source shows them; the numbers are those of the rules. */
public final class LanguageTest {
    // Some of these the rules allow in places; the class does without them.
    private static final Set<Kind> NOT_THERE = EnumSet.of(Kind.PACKAGE, Kind.LAMBDA_EXPRESSION, Kind.MEMBER_REFERENCE,
            Kind.TRY, Kind.CATCH, Kind.SYNCHRONIZED, Kind.ASSERT, Kind.INSTANCE_OF, Kind.NULL_LITERAL, Kind.ENUM,
            Kind.INTERFACE, Kind.RECORD, Kind.ANNOTATION_TYPE, Kind.ANNOTATION, Kind.WHILE_LOOP, Kind.DO_WHILE_LOOP,
            Kind.ENHANCED_FOR_LOOP, Kind.DIVIDE, Kind.REMAINDER, Kind.DIVIDE_ASSIGNMENT, Kind.REMAINDER_ASSIGNMENT,
            Kind.FLOAT_LITERAL, Kind.DOUBLE_LITERAL, Kind.SWITCH_EXPRESSION, Kind.PARAMETERIZED_TYPE);
    private static final Set<String> LIBRARY = Set.of("Math.min(int,int)", "Math.max(int,int)",
            "Math.floorMod(int,int)", "Integer.bitCount(int)", "Arrays.fill(int[],int)", "Arrays.fill(long[],long)",
            "System.arraycopy(java.lang.Object,int,java.lang.Object,int,int)", "Object.Object()");
    private static final Set<String> THROWN = Set.of("IllegalStateException", "IllegalArgumentException",
            "IndexOutOfBoundsException");
    private static final Set<TypeKind> NUMBERS = EnumSet.of(TypeKind.INT, TypeKind.LONG, TypeKind.BOOLEAN);

    private final Source source;
    private int classes = 0;

    private LanguageTest(Source source) {
        this.source = source;
    }

    public static void main(String[] args) throws Exception {
        Source source = new Source("src/main/java/BranchingStory.java");
        LanguageTest test = new LanguageTest(source);
        Check.due("top classes", 1, () -> source.unit().getTypeDecls().size());
        Check.isTrue("no package line", () -> source.unit().getPackageName() == null);
        source.eachTree(test::look);
        Check.isTrue("11: at most twelve classes", () -> test.classes > 0 && test.classes <= 12);
        Check.end();
    }

    private void look(Tree tree, TreePath path) {
        String where = tree.getKind() + " in line " + source.lineOf(tree);
        Check.isFalse(where, () -> NOT_THERE.contains(tree.getKind()));
        if (tree instanceof ImportTree) {
            Check.same("4: import", ((ImportTree) tree).getQualifiedIdentifier().toString(), "java.util.Arrays");
        } else if (tree instanceof ClassTree) {
            lookAtClass((ClassTree) tree, path);
        } else if (tree instanceof MethodTree) {
            lookAtMethod((MethodTree) tree, path);
        } else if (tree instanceof VariableTree) {
            lookAtVariable((VariableTree) tree, path);
        } else if (tree instanceof MethodInvocationTree) {
            lookAtCall((MethodInvocationTree) tree, path);
        } else if (tree instanceof NewClassTree || tree.getKind() == Kind.NEW_ARRAY) {
            lookAtNew(where, path);
        } else if (tree instanceof ThrowTree) {
            lookAtThrow(where, (ThrowTree) tree, path);
        } else if (tree instanceof ForLoopTree) {
            lookAtLoop(where, (ForLoopTree) tree);
        } else if (tree instanceof TypeCastTree) {
            Check.isTrue("7: only numbers are cast, " + where, () -> source.type(path).getKind().isPrimitive());
        } else if (tree instanceof BinaryTree) {
            lookAtJoin(where, path);
        }
    }

    private void lookAtClass(ClassTree tree, TreePath path) {
        classes++;
        Element own = source.element(path);
        Set<Modifier> modifiers = own.getModifiers();
        boolean outer = own.getEnclosingElement().getKind() == ElementKind.PACKAGE;
        Check.isTrue("1: " + tree.getSimpleName(), () -> modifiers.equals(outer
                ? EnumSet.of(Modifier.PUBLIC, Modifier.FINAL)
                : EnumSet.of(Modifier.PRIVATE, Modifier.STATIC, Modifier.FINAL)));
        Check.isTrue("2: nothing above " + tree.getSimpleName(),
                () -> tree.getExtendsClause() == null && tree.getImplementsClause().isEmpty());
        long fields = own.getEnclosedElements().stream().filter(member -> member.getKind() == ElementKind.FIELD
                && !member.getModifiers().contains(Modifier.STATIC)).count();
        Check.isTrue("11: " + tree.getSimpleName() + " has " + fields + " fields", () -> fields <= 20);
        for (Tree member : tree.getMembers()) {
            Check.isFalse("5: an initialiser block", () -> member.getKind() == Kind.BLOCK);
        }
    }

    private void lookAtMethod(MethodTree tree, TreePath path) {
        Element method = source.element(path);
        String name = tree.getName() + " in line " + source.lineOf(tree);
        Check.isTrue("11: few parameters, " + name, () -> tree.getParameters().size() <= 7);
        Check.isTrue("11: short, " + name, () -> source.linesOf(tree) <= 60);
        Set<String> circles = new TreeSet<>();
        int depth = source.depth(method, circles);
        Check.isTrue("11: " + depth + " calls deep, " + name, () -> depth <= 8);
        Check.same("8: recursion from " + name, circles.toString(), "[]");
        if (tree.getReturnType() != null) {
            TypeMirror answer = source.type(new TreePath(path, tree.getReturnType()));
            Check.isTrue("3: what " + name + " answers", () -> answer.getKind() == TypeKind.VOID || isFine(answer));
        }
    }

    private void lookAtVariable(VariableTree tree, TreePath path) {
        VariableElement variable = (VariableElement) source.element(path);
        String name = tree.getName() + " in line " + source.lineOf(tree);
        Check.isTrue("3: the type of " + name, () -> isFine(variable.asType()));
        if (variable.getModifiers().contains(Modifier.STATIC)) {
            Check.isTrue("5: a constant, " + name, () -> variable.getConstantValue() != null);
        }
    }

    /** A number, a row of numbers, or a class of the file's own. */
    private boolean isFine(TypeMirror type) {
        if (type.getKind() == TypeKind.ARRAY) {
            return NUMBERS.contains(((ArrayType) type).getComponentType().getKind());
        }
        if (type.getKind() == TypeKind.DECLARED) {
            return source.isOwn(((DeclaredType) type).asElement());
        }
        return NUMBERS.contains(type.getKind());
    }

    private void lookAtCall(MethodInvocationTree tree, TreePath path) {
        Element called = source.element(path);
        Element caller = source.methodAround(path);
        String name = called.getEnclosingElement().getSimpleName() + "." + (called.getKind() == ElementKind.CONSTRUCTOR
                ? called.getEnclosingElement().getSimpleName() + "()" : called.toString());
        Check.isTrue("4: " + name, () -> source.isOwn(called) || LIBRARY.contains(name));
        if (caller != null && caller.getKind() == ElementKind.CONSTRUCTOR) {
            Check.same("12: a constructor calls", name, "Object.Object()");
        }
    }

    /** Rows and objects are made with the object; only exceptions are made by calls. */
    private void lookAtNew(String where, TreePath path) {
        Element method = source.methodAround(path);
        boolean thrown = path.getParentPath().getLeaf() instanceof ThrowTree;
        Check.isTrue("12: " + where, () -> thrown || method == null || method.getKind() == ElementKind.CONSTRUCTOR);
    }

    private void lookAtThrow(String where, ThrowTree tree, TreePath path) {
        Check.isTrue("6: " + where, () -> tree.getExpression() instanceof NewClassTree);
        NewClassTree made = (NewClassTree) tree.getExpression();
        List<? extends ExpressionTree> arguments = made.getArguments();
        Check.isTrue("6: " + where, () -> THROWN.contains(made.getIdentifier().toString()));
        Check.isTrue("6: a written text, " + where, () -> arguments.isEmpty()
                || arguments.size() == 1 && arguments.get(0) instanceof LiteralTree);
        Check.isFalse("6: in a constructor, " + where,
                () -> source.methodAround(path).getKind() == ElementKind.CONSTRUCTOR);
    }

    /** A counter goes up by one against a bound, and nothing in the loop puts it elsewhere. */
    private void lookAtLoop(String where, ForLoopTree tree) {
        Check.isTrue("9: one counter, " + where, () -> tree.getInitializer().size() == 1
                && tree.getInitializer().get(0) instanceof VariableTree && tree.getUpdate().size() == 1);
        String counter = ((VariableTree) tree.getInitializer().get(0)).getName().toString();
        Check.isTrue("9: a bound, " + where, () -> isBounded(tree.getCondition(), counter));
        ExpressionStatementTree update = tree.getUpdate().get(0);
        Check.same("9: counts, " + where, update.getExpression().toString(), counter + "++");
        Check.isFalse("9: the counter is left alone, " + where, () -> changes(tree.getStatement(), counter)
                || changes(tree.getCondition(), counter));
    }

    /** One of the conditions that must all hold is that the counter is below something. */
    private static boolean isBounded(Tree condition, String counter) {
        if (condition.getKind() == Kind.CONDITIONAL_AND) {
            BinaryTree both = (BinaryTree) condition;
            return isBounded(both.getLeftOperand(), counter) || isBounded(both.getRightOperand(), counter);
        }
        return condition.getKind() == Kind.LESS_THAN
                && ((BinaryTree) condition).getLeftOperand().toString().equals(counter);
    }

    private static boolean changes(Tree tree, String name) {
        boolean[] found = {false};
        new TreeScanner<Void, Void>() {
            @Override
            public Void scan(Tree part, Void nothing) {
                ExpressionTree changed = part instanceof AssignmentTree ? ((AssignmentTree) part).getVariable()
                        : part instanceof CompoundAssignmentTree ? ((CompoundAssignmentTree) part).getVariable()
                        : part instanceof UnaryTree && part.getKind() != Kind.UNARY_MINUS
                                && part.getKind() != Kind.BITWISE_COMPLEMENT && part.getKind() != Kind.LOGICAL_COMPLEMENT
                                ? ((UnaryTree) part).getExpression() : null;
                if (changed instanceof IdentifierTree && changed.toString().equals(name)) {
                    found[0] = true;
                }
                return super.scan(part, nothing);
            }
        }.scan(tree, null);
        return found[0];
    }

    /** Texts are not joined or compared, and neither are objects. */
    private void lookAtJoin(String where, TreePath path) {
        BinaryTree tree = (BinaryTree) path.getLeaf();
        Check.isTrue("6, 10: only numbers, " + where, () -> NUMBERS.contains(source.type(path).getKind())
                && source.type(new TreePath(path, tree.getLeftOperand())).getKind().isPrimitive()
                && source.type(new TreePath(path, tree.getRightOperand())).getKind().isPrimitive());
    }
}

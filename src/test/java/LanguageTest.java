import com.sun.source.tree.BinaryTree;
import com.sun.source.tree.BlockTree;
import com.sun.source.tree.ClassTree;
import com.sun.source.tree.CompilationUnitTree;
import com.sun.source.tree.DoWhileLoopTree;
import com.sun.source.tree.ExpressionTree;
import com.sun.source.tree.ForLoopTree;
import com.sun.source.tree.MethodInvocationTree;
import com.sun.source.tree.MethodTree;
import com.sun.source.tree.NewArrayTree;
import com.sun.source.tree.NewClassTree;
import com.sun.source.tree.Tree;
import com.sun.source.tree.VariableTree;
import com.sun.source.tree.WhileLoopTree;
import com.sun.source.util.JavacTask;
import com.sun.source.util.SourcePositions;
import com.sun.source.util.TreePath;
import com.sun.source.util.TreePathScanner;
import com.sun.source.util.Trees;
import java.nio.file.Path;
import java.util.EnumSet;
import java.util.HashSet;
import java.util.LinkedHashMap;
import java.util.LinkedHashSet;
import java.util.List;
import java.util.Map;
import java.util.Set;
import javax.lang.model.element.Element;
import javax.lang.model.element.ElementKind;
import javax.lang.model.element.Modifier;
import javax.lang.model.element.VariableElement;
import javax.lang.model.type.ArrayType;
import javax.lang.model.type.TypeKind;
import javax.lang.model.type.TypeMirror;
import javax.tools.JavaCompiler;
import javax.tools.StandardJavaFileManager;
import javax.tools.ToolProvider;

/** Those rules of LANGUAGE.md that the program's own tree shows. What the program does not use at all is not allowed here either. */
public final class LanguageTest extends TreePathScanner<Void, Void> {
    private static final Set<String> LIBRARY = Set.of(
        "java.lang.Object.<init>", "java.lang.Math.min", "java.lang.Math.max", "java.lang.Integer.bitCount",
        "java.lang.System.arraycopy");

    private static final Set<Tree.Kind> NOT_ALLOWED = EnumSet.of(
        Tree.Kind.THROW, Tree.Kind.TRY, Tree.Kind.CATCH, Tree.Kind.SYNCHRONIZED, Tree.Kind.ASSERT,
        Tree.Kind.LAMBDA_EXPRESSION, Tree.Kind.MEMBER_REFERENCE, Tree.Kind.IMPORT, Tree.Kind.PACKAGE,
        Tree.Kind.ANNOTATION, Tree.Kind.TYPE_CAST, Tree.Kind.INSTANCE_OF, Tree.Kind.SWITCH_EXPRESSION,
        Tree.Kind.RECORD, Tree.Kind.ENUM, Tree.Kind.INTERFACE, Tree.Kind.STRING_LITERAL, Tree.Kind.NULL_LITERAL,
        Tree.Kind.DIVIDE_ASSIGNMENT, Tree.Kind.REMAINDER_ASSIGNMENT, Tree.Kind.TYPE_PARAMETER, Tree.Kind.PARAMETERIZED_TYPE, Tree.Kind.ENHANCED_FOR_LOOP);

    private static final int CLASSES_AT_MOST = 12;
    private static final int FIELDS_AT_MOST = 20;
    private static final int LINES_AT_MOST = 60;
    private static final int PARAMETERS_AT_MOST = 7;
    private static final int CALLS_DEEP_AT_MOST = 8;

    private final Map<Element, Set<Element>> calls = new LinkedHashMap<>();
    private final Set<String> openNames = new HashSet<>();
    private Trees trees;
    private CompilationUnitTree unit;
    private int classes = 0;

    public static void main(String[] args) throws Exception {
        JavaCompiler compiler = ToolProvider.getSystemJavaCompiler();
        try (StandardJavaFileManager files = compiler.getStandardFileManager(null, null, null)) {
            JavacTask task = (JavacTask) compiler.getTask(null, files, null, List.of("-proc:none"), null,
                files.getJavaFileObjects(Path.of("src/main/java/RoomBorn.java")));
            LanguageTest test = new LanguageTest();
            test.unit = task.parse().iterator().next();
            task.analyze();
            test.trees = Trees.instance(task);
            test.holds();
        }
        Check.end();
    }

    private void holds() {
        Check.about("LANGUAGE.md, rule 1");
        Check.due("classes that stand alone", 1, unit.getTypeDecls().size());
        for (Tree member : ((ClassTree) unit.getTypeDecls().get(0)).getMembers()) {
            if (member instanceof MethodTree method && method.getModifiers().getFlags().contains(Modifier.PUBLIC)) {
                openNames.add(method.getName().toString());
            }
        }
        scan(unit, null);
        Check.about("LANGUAGE.md, rule 11");
        Check.yes("some twelve classes: " + classes, classes <= CLASSES_AT_MOST);
        for (Element method : calls.keySet()) {
            int deep = deep(method, new LinkedHashSet<>());
            Check.yes(method + " goes eight deep at most, and calls no one that calls it: " + deep, deep <= CALLS_DEEP_AT_MOST);
        }
    }

    /** How many calls stand open at once, this one too; a thousand for one that comes back to itself. */
    private int deep(Element method, Set<Element> open) {
        if (!open.add(method)) {
            return 1000;
        }
        int deepest = 0;
        for (Element called : calls.getOrDefault(method, Set.of())) {
            deepest = Math.max(deepest, deep(called, open));
        }
        open.remove(method);
        return deepest + 1;
    }

    @Override
    public Void scan(Tree tree, Void nothing) {
        if (tree != null && NOT_ALLOWED.contains(tree.getKind())) {
            Check.about("LANGUAGE.md, rules 2, 3 and 6");
            Check.yes("no " + tree.getKind() + " at " + line(tree) + ": " + tree, false);
        }
        return super.scan(tree, nothing);
    }

    @Override
    public Void visitClass(ClassTree tree, Void nothing) {
        classes++;
        Check.about("LANGUAGE.md, rule 2");
        Set<Modifier> flags = tree.getModifiers().getFlags();
        boolean outer = getCurrentPath().getParentPath().getLeaf() == unit;
        Check.yes(tree.getSimpleName() + " is public and final, or static and hidden",
            flags.equals(outer ? Set.of(Modifier.PUBLIC, Modifier.FINAL)
                : Set.of(Modifier.PRIVATE, Modifier.STATIC, Modifier.FINAL)));
        Check.yes(tree.getSimpleName() + " extends nothing", tree.getExtendsClause() == null && tree.getImplementsClause().isEmpty());
        int fields = 0;
        for (Tree member : tree.getMembers()) {
            boolean field = member instanceof VariableTree;
            fields += field && !((VariableTree) member).getModifiers().getFlags().contains(Modifier.STATIC) ? 1 : 0;
            Check.yes("no block of its own in " + tree.getSimpleName(), !(member instanceof BlockTree));
        }
        Check.about("LANGUAGE.md, rule 11");
        Check.yes(tree.getSimpleName() + " has some twenty fields: " + fields, fields <= FIELDS_AT_MOST);
        return super.visitClass(tree, nothing);
    }

    @Override
    public Void visitMethod(MethodTree tree, Void nothing) {
        String name = tree.getName().toString();
        calls.put(element(), new LinkedHashSet<>());
        Check.about("LANGUAGE.md, rule 1");
        boolean open = tree.getModifiers().getFlags().contains(Modifier.PUBLIC);
        boolean hidden = tree.getModifiers().getFlags().contains(Modifier.PRIVATE);
        boolean made = name.equals("<init>");
        Check.yes(name + " is public or private", open || hidden || made);
        Check.yes(name + " bears no name of a public one", open || made || !openNames.contains(name));
        Check.about("LANGUAGE.md, rule 6");
        Check.yes(name + " is none of toString, equals, hashCode", !Set.of("toString", "equals", "hashCode", "finalize").contains(name));
        Check.about("LANGUAGE.md, rule 11");
        Check.yes(name + " takes seven at most", tree.getParameters().size() <= PARAMETERS_AT_MOST);
        SourcePositions places = trees.getSourcePositions();
        long lines = unit.getLineMap().getLineNumber(places.getEndPosition(unit, tree)) - line(tree);
        Check.yes(name + " is short: " + lines, lines <= LINES_AT_MOST);
        Check.about("LANGUAGE.md, rule 3");
        if (tree.getReturnType() != null) {
            type(name, trees.getTypeMirror(new TreePath(getCurrentPath(), tree.getReturnType())));
        }
        return super.visitMethod(tree, nothing);
    }

    @Override
    public Void visitVariable(VariableTree tree, Void nothing) {
        Element variable = element();
        Check.about("LANGUAGE.md, rule 3");
        type(tree.getName().toString(), variable.asType());
        if (variable.getModifiers().contains(Modifier.STATIC)) {
            Check.about("LANGUAGE.md, rule 5");
            Check.yes(tree.getName() + " is a constant number",
                variable.getModifiers().contains(Modifier.FINAL) && variable.asType().getKind().isPrimitive());
        }
        return super.visitVariable(tree, nothing);
    }

    /** Whole numbers, truth values, own classes, arrays of these, arrays of arrays of numbers. */
    private void type(String name, TypeMirror type) {
        TypeMirror part = type;
        int dimensions = 0;
        while (part.getKind() == TypeKind.ARRAY) {
            part = ((ArrayType) part).getComponentType();
            dimensions++;
        }
        boolean number = Set.of(TypeKind.INT, TypeKind.LONG, TypeKind.BOOLEAN).contains(part.getKind());
        boolean own = part.toString().startsWith("RoomBorn");
        boolean nothing = part.getKind() == TypeKind.VOID;
        Check.yes(name + " is of a type that is allowed: " + type,
            number && dimensions <= 2 || own && dimensions <= 1 || nothing && dimensions == 0);
    }

    @Override
    public Void visitMethodInvocation(MethodInvocationTree tree, Void nothing) {
        Element called = element();
        String owner = called.getEnclosingElement().toString();
        if (owner.startsWith("RoomBorn")) {
            calls.get(method()).add(called);
        } else {
            Check.about("LANGUAGE.md, rules 4 and 13");
            String name = owner + "." + called.getSimpleName();
            Check.yes(name + " may be called", LIBRARY.contains(name));
        }
        return super.visitMethodInvocation(tree, nothing);
    }

    @Override
    public Void visitNewClass(NewClassTree tree, Void nothing) {
        Check.yes("no class without a name: " + tree, tree.getClassBody() == null);
        Element made = element();
        if (method() != null) {
            calls.get(method()).add(made);
        }
        madeWithTheObject(tree);
        return super.visitNewClass(tree, nothing);
    }

    @Override
    public Void visitNewArray(NewArrayTree tree, Void nothing) {
        madeWithTheObject(tree);
        return super.visitNewArray(tree, nothing);
    }

    private void madeWithTheObject(Tree tree) {
        Check.about("LANGUAGE.md, rule 12");
        Element method = method();
        Check.yes("no call makes an object or an array: " + tree, method == null || method.getKind() == ElementKind.CONSTRUCTOR);
    }

    @Override
    public Void visitForLoop(ForLoopTree tree, Void nothing) {
        ends(tree, tree.getCondition());
        return super.visitForLoop(tree, nothing);
    }

    @Override
    public Void visitWhileLoop(WhileLoopTree tree, Void nothing) {
        ends(tree, tree.getCondition());
        return super.visitWhileLoop(tree, nothing);
    }

    @Override
    public Void visitDoWhileLoop(DoWhileLoopTree tree, Void nothing) {
        ends(tree, tree.getCondition());
        return super.visitDoWhileLoop(tree, nothing);
    }

    private void ends(Tree loop, ExpressionTree condition) {
        Check.about("LANGUAGE.md, rule 9");
        boolean compares = condition != null && condition.toString().matches(".*[<>].*");
        Check.yes("the loop at " + line(loop) + " has a bound", compares);
    }

    /** A divisor is a constant, or its method tests it against 0. */
    @Override
    public Void visitBinary(BinaryTree tree, Void nothing) {
        if (tree.getKind() == Tree.Kind.DIVIDE || tree.getKind() == Tree.Kind.REMAINDER) {
            Check.about("LANGUAGE.md, rule 7");
            ExpressionTree divisor = tree.getRightOperand();
            Check.yes(tree + ": the divisor is looked at", isConstant(divisor) || isLookedAt(divisor.toString()));
        }
        return super.visitBinary(tree, nothing);
    }

    private boolean isConstant(ExpressionTree divisor) {
        Element named = trees.getElement(new TreePath(getCurrentPath(), divisor));
        Object value = named instanceof VariableElement variable ? variable.getConstantValue() : null;
        return value instanceof Integer number && number != 0;
    }

    private boolean isLookedAt(String divisor) {
        String test = divisor + "\\s*(==|!=) 0\\b";
        for (Tree around : getCurrentPath()) {
            if (around instanceof MethodTree method) {
                return method.getBody().toString().matches("(?s).*\\b" + test + ".*");
            }
        }
        return false;
    }

    private Element element() {
        return trees.getElement(getCurrentPath());
    }

    /** The method in which this stands; null for a field's own value. */
    private Element method() {
        for (TreePath path = getCurrentPath(); path != null; path = path.getParentPath()) {
            if (path.getLeaf() instanceof MethodTree) {
                return trees.getElement(path);
            }
        }
        return null;
    }

    private long line(Tree tree) {
        return unit.getLineMap().getLineNumber(trees.getSourcePositions().getStartPosition(unit, tree));
    }
}

import com.sun.source.tree.ArrayAccessTree;
import com.sun.source.tree.AssertTree;
import com.sun.source.tree.AssignmentTree;
import com.sun.source.tree.BinaryTree;
import com.sun.source.tree.BlockTree;
import com.sun.source.tree.ClassTree;
import com.sun.source.tree.CompilationUnitTree;
import com.sun.source.tree.CompoundAssignmentTree;
import com.sun.source.tree.IdentifierTree;
import com.sun.source.tree.ImportTree;
import com.sun.source.tree.LambdaExpressionTree;
import com.sun.source.tree.MemberReferenceTree;
import com.sun.source.tree.MemberSelectTree;
import com.sun.source.tree.MethodInvocationTree;
import com.sun.source.tree.MethodTree;
import com.sun.source.tree.NewClassTree;
import com.sun.source.tree.SynchronizedTree;
import com.sun.source.tree.ThrowTree;
import com.sun.source.tree.Tree;
import com.sun.source.tree.TryTree;
import com.sun.source.tree.UnaryTree;
import com.sun.source.tree.VariableTree;
import com.sun.source.util.JavacTask;
import com.sun.source.util.TreePath;
import com.sun.source.util.TreePathScanner;
import com.sun.source.util.Trees;
import java.nio.file.Path;
import java.util.HashMap;
import java.util.HashSet;
import java.util.List;
import java.util.Map;
import java.util.Set;
import java.util.TreeSet;
import javax.lang.model.element.Element;
import javax.lang.model.element.ElementKind;
import javax.lang.model.element.ExecutableElement;
import javax.lang.model.element.Modifier;
import javax.lang.model.element.TypeElement;
import javax.lang.model.type.ArrayType;
import javax.lang.model.type.DeclaredType;
import javax.lang.model.type.TypeKind;
import javax.lang.model.type.TypeMirror;
import javax.tools.JavaCompiler;
import javax.tools.StandardJavaFileManager;
import javax.tools.ToolProvider;

/** Goes through a program as the compiler reads it, and tells what is outside the rules of ../shared/LANGUAGE.md. */
final class Rules extends TreePathScanner<Void, Void> {
    private static final Set<String> OF_MATH = Set.of("compare", "max", "min", "abs", "bitCount", "floorDiv", "floorMod", "signum",
        "numberOfTrailingZeros", "numberOfLeadingZeros", "highestOneBit", "lowestOneBit");
    private static final Set<String> OF_LISTS = Set.of("add", "get", "set", "remove", "size", "isEmpty", "clear", "of", "iterator");
    private static final Map<String, Set<String>> LIBRARY = Map.ofEntries(
        Map.entry("java.lang.Math", OF_MATH), Map.entry("java.lang.Integer", OF_MATH), Map.entry("java.lang.Long", OF_MATH),
        Map.entry("java.util.List", OF_LISTS), Map.entry("java.util.ArrayList", OF_LISTS), Map.entry("java.util.Collection", OF_LISTS),
        Map.entry("java.lang.System", Set.of("arraycopy")), Map.entry("java.util.Arrays", Set.of("copyOf", "copyOfRange", "fill")),
        Map.entry("java.lang.String", Set.of("length", "charAt", "isEmpty", "equals", "indexOf", "substring", "toCharArray")),
        Map.entry("java.lang.StringBuilder", Set.of("append", "charAt", "setCharAt", "setLength", "deleteCharAt", "reverse", "length", "toString")),
        Map.entry("java.lang.Enum", Set.of("ordinal", "values")), Map.entry("java.lang.Comparable", Set.of("compareTo")),
        Map.entry("java.util.Iterator", Set.of("hasNext", "next")), Map.entry("java.lang.Iterable", Set.of("iterator")));
    private static final Set<String> TYPES = Set.of("java.lang.String", "java.lang.StringBuilder", "java.lang.Integer",
        "java.util.List", "java.util.ArrayList", "java.util.Iterator", "java.lang.Iterable", "java.lang.Comparable");
    // The page says "some" of each of these.
    private static final int MOST_LINES = 70, MOST_CLASSES = 14, MOST_FIELDS = 24;
    private static final int MOST_PARAMETERS = 7, MOST_DEEP = 8;

    private final Trees trees;
    private final CompilationUnitTree unit;
    private final Map<Element, Set<Element>> calls = new HashMap<>();
    private int classes;
    private int faults;

    Rules(Path source) throws Exception {
        JavaCompiler compiler = ToolProvider.getSystemJavaCompiler();
        StandardJavaFileManager files = compiler.getStandardFileManager(null, null, null);
        JavacTask task = (JavacTask) compiler.getTask(null, files, null, List.of("-proc:none"), null, files.getJavaFileObjects(source));
        unit = task.parse().iterator().next();
        task.analyze();
        trees = Trees.instance(task);
    }

    void areKept() {
        scan(unit, null);
        holds(null, 1, "one public class in the file", unit.getTypeDecls().size() == 1);
        holds(null, 1, "no package line", unit.getPackage() == null);
        holds(null, 11, "some twelve classes", classes <= MOST_CLASSES);
        for (Element m : calls.keySet()) {
            holds(null, 11, m + " calls at most " + MOST_DEEP + " deep", deepest(m, new HashSet<>()) <= MOST_DEEP);
            holds(null, 8, m + " calls itself, or is called by what it calls", mayRecur(m) || !reaches(m, m, new HashSet<>()));
        }
        Due.is("faults by the rules of LANGUAGE.md", faults, 0);
    }

    private void holds(Tree at, int rule, String what, boolean it) {
        if (!it) {
            faults++;
            long line = at == null ? 0 : unit.getLineMap().getLineNumber(trees.getSourcePositions().getStartPosition(unit, at));
            Due.holds("rule " + rule + ", line " + line + ": " + what, false);
        }
    }

    private void ruledOut(Tree at, int rule, String what) {
        holds(at, rule, "no " + what, false);
    }

    private Element elementOf(Tree tree) {
        return trees.getElement(new TreePath(getCurrentPath(), tree));
    }

    private TypeMirror typeOf(Tree tree) {
        return trees.getTypeMirror(new TreePath(getCurrentPath(), tree));
    }

    private static boolean isOfTheLibrary(String name) {
        return name.startsWith("java.") || name.startsWith("javax.");
    }

    // ---- calls

    private static boolean mayRecur(Element m) {
        boolean ofAnInterface = m.getAnnotation(Override.class) != null || m.getModifiers().contains(Modifier.ABSTRACT);
        return ofAnInterface || m.getModifiers().contains(Modifier.PRIVATE);
    }

    private boolean reaches(Element from, Element to, Set<Element> seen) {
        for (Element next : calls.getOrDefault(from, Set.of())) {
            if (next.equals(to) || seen.add(next) && reaches(next, to, seen)) {
                return true;
            }
        }
        return false;
    }

    private int deepest(Element m, Set<Element> open) {
        int most = 0;
        open.add(m);
        for (Element next : calls.getOrDefault(m, Set.of())) {
            if (!open.contains(next)) {
                most = Math.max(most, deepest(next, open));
            }
        }
        open.remove(m);
        return most + 1;
    }

    private Element enclosingMethod() {
        for (TreePath p = getCurrentPath(); p != null; p = p.getParentPath()) {
            if (p.getLeaf().getKind() == Tree.Kind.METHOD) {
                return trees.getElement(p);
            }
        }
        return null;
    }

    @Override
    public Void visitMethodInvocation(MethodInvocationTree tree, Void v) {
        Element called = elementOf(tree.getMethodSelect());
        TypeElement owner = (TypeElement) called.getEnclosingElement();
        String of = owner.getQualifiedName().toString();
        if (of.equals("Array") || of.isEmpty()) {
            holds(tree, 4, "of an array, clone alone", called.getSimpleName().contentEquals("clone"));
        } else if (called.getKind() == ElementKind.METHOD && isOfTheLibrary(of)) {
            holds(tree, 4, of + "." + called, LIBRARY.getOrDefault(of, Set.of()).contains(called.getSimpleName().toString()));
        } else if (called.getKind() == ElementKind.METHOD && enclosingMethod() != null) {
            calls.computeIfAbsent(enclosingMethod(), m -> new HashSet<>()).add(called);
        }
        return super.visitMethodInvocation(tree, v);
    }

    @Override
    public Void visitMemberSelect(MemberSelectTree tree, Void v) {
        Element e = trees.getElement(getCurrentPath());
        if (e != null && e.getKind() == ElementKind.FIELD && e.getEnclosingElement() instanceof TypeElement owner) {
            holds(tree, 4, "constant " + tree, !isOfTheLibrary(owner.getQualifiedName().toString()));
        }
        return super.visitMemberSelect(tree, v);
    }

    @Override
    public Void visitNewClass(NewClassTree tree, Void v) {
        holds(tree, 2, "no anonymous class", tree.getClassBody() == null);
        String made = elementOf(tree.getIdentifier()) + "";
        holds(tree, 4, "new " + made, !isOfTheLibrary(made) || TYPES.contains(made));
        return super.visitNewClass(tree, v);
    }

    @Override
    public Void visitImport(ImportTree tree, Void v) {
        String name = tree.getQualifiedIdentifier().toString();
        Set<String> may = Set.of("java.util.ArrayList", "java.util.List", "java.util.Arrays", "java.util.Iterator");
        holds(tree, 4, "import " + name, !tree.isStatic() && may.contains(name));
        return null;
    }

    // ---- classes, methods, fields

    @Override
    public Void visitClass(ClassTree tree, Void v) {
        classes++;
        Tree.Kind in = getCurrentPath().getParentPath().getLeaf().getKind();
        boolean inside = in != Tree.Kind.COMPILATION_UNIT;
        holds(tree, 2, "no local class", !inside || in == Tree.Kind.CLASS || in == Tree.Kind.INTERFACE || in == Tree.Kind.ENUM);
        boolean isStatic = trees.getElement(getCurrentPath()).getModifiers().contains(Modifier.STATIC);
        holds(tree, 2, "no inner class that isn't static", !inside || isStatic);
        int fields = 0;
        for (Tree member : tree.getMembers()) {
            if (member instanceof VariableTree f && !f.getModifiers().getFlags().contains(Modifier.STATIC)) {
                fields++;
            }
            holds(member, 5, "no initialiser block", !(member instanceof BlockTree));
        }
        holds(tree, 11, tree.getSimpleName() + ": some twenty fields", fields <= MOST_FIELDS);
        return super.visitClass(tree, v);
    }

    @Override
    public Void visitMethod(MethodTree tree, Void v) {
        Element m = trees.getElement(getCurrentPath());
        calls.computeIfAbsent(m, e -> new HashSet<>());
        holds(tree, 11, tree.getName() + ": at most seven parameters", tree.getParameters().size() <= MOST_PARAMETERS);
        long from = unit.getLineMap().getLineNumber(trees.getSourcePositions().getStartPosition(unit, tree));
        long to = unit.getLineMap().getLineNumber(trees.getSourcePositions().getEndPosition(unit, tree));
        holds(tree, 11, tree.getName() + ": some sixty lines", to < from || to - from < MOST_LINES);
        holds(tree, 6, tree.getName() + " throws nothing", tree.getThrows().isEmpty());
        Set<String> ofObjects = Set.of("equals", "hashCode", "toString", "finalize", "clone");
        holds(tree, 6, "no " + tree.getName(), !ofObjects.contains(tree.getName().toString()));
        holds(tree, 6, "not synchronized, not native", !m.getModifiers().contains(Modifier.SYNCHRONIZED) && !m.getModifiers().contains(Modifier.NATIVE));
        if (tree.getReturnType() != null && ((ExecutableElement) m).getReturnType().getKind() != TypeKind.VOID) {
            isOfARightType(tree, ((ExecutableElement) m).getReturnType());
        }
        return super.visitMethod(tree, v);
    }

    @Override
    public Void visitVariable(VariableTree tree, Void v) {
        Element e = trees.getElement(getCurrentPath());
        isOfARightType(tree, e.asType());
        if (e.getKind() == ElementKind.FIELD && e.getModifiers().contains(Modifier.STATIC)) {
            holds(tree, 5, tree.getName() + " is final", e.getModifiers().contains(Modifier.FINAL));
            TypeMirror of = e.asType() instanceof ArrayType array ? array.getComponentType() : e.asType();
            boolean ofEnums = of instanceof DeclaredType d && d.asElement().getKind() == ElementKind.ENUM;
            boolean text = of.toString().equals("java.lang.String") && !(e.asType() instanceof ArrayType);
            holds(tree, 5, tree.getName() + " is a constant", of.getKind().isPrimitive() || text || ofEnums);
        }
        return super.visitVariable(tree, v);
    }

    private void isOfARightType(Tree at, TypeMirror type) {
        TypeMirror of = type;
        int dimensions = 0;
        while (of instanceof ArrayType array) {
            of = array.getComponentType();
            dimensions++;
        }
        boolean own = of instanceof DeclaredType d && !isOfTheLibrary(((TypeElement) d.asElement()).getQualifiedName().toString());
        boolean library = of instanceof DeclaredType d && TYPES.contains(((TypeElement) d.asElement()).getQualifiedName().toString());
        boolean number = of.getKind().isPrimitive();
        boolean right = switch (dimensions) {
            case 0 -> number || own || library || of.getKind() == TypeKind.TYPEVAR;
            case 1 -> number || own;
            case 2 -> number;
            default -> false;
        };
        holds(at, 3, "type " + type, right);
    }

    // ---- statements

    @Override
    public Void visitThrow(ThrowTree tree, Void v) {
        ruledOut(tree, 6, "throw");
        return super.visitThrow(tree, v);
    }

    @Override
    public Void visitTry(TryTree tree, Void v) {
        ruledOut(tree, 6, "try");
        return super.visitTry(tree, v);
    }

    @Override
    public Void visitSynchronized(SynchronizedTree tree, Void v) {
        ruledOut(tree, 6, "synchronized");
        return super.visitSynchronized(tree, v);
    }

    @Override
    public Void visitAssert(AssertTree tree, Void v) {
        ruledOut(tree, 6, "assert");
        return super.visitAssert(tree, v);
    }

    @Override
    public Void visitLambdaExpression(LambdaExpressionTree tree, Void v) {
        ruledOut(tree, 2, "lambda");
        return super.visitLambdaExpression(tree, v);
    }

    @Override
    public Void visitMemberReference(MemberReferenceTree tree, Void v) {
        ruledOut(tree, 2, "method reference");
        return super.visitMemberReference(tree, v);
    }

    @Override
    public Void visitBinary(BinaryTree tree, Void v) {
        Set<String> types = new TreeSet<>(Set.of(typeOf(tree.getLeftOperand()) + "", typeOf(tree.getRightOperand()) + " "));
        boolean text = types.toString().contains("java.lang.String");
        holds(tree, 10, "texts are not joined by +", tree.getKind() != Tree.Kind.PLUS || !text);
        boolean same = tree.getKind() == Tree.Kind.EQUAL_TO || tree.getKind() == Tree.Kind.NOT_EQUAL_TO;
        boolean boxed = types.toString().contains("java.lang.Integer,") && types.toString().contains("java.lang.Integer ");
        holds(tree, 6, "texts and Integers are not compared by ==", !same || !text && !boxed);
        return super.visitBinary(tree, v);
    }

    // ---- static rows are never changed

    private void isNotStatic(Tree at, Tree changed) {
        if (changed instanceof ArrayAccessTree access) {
            Tree row = access.getExpression();
            boolean named = row instanceof IdentifierTree || row instanceof MemberSelectTree;
            Element e = named ? trees.getElement(TreePath.getPath(unit, row)) : null;
            holds(at, 5, row + " is static and never changed", e == null || !e.getModifiers().contains(Modifier.STATIC));
        }
    }

    @Override
    public Void visitAssignment(AssignmentTree tree, Void v) {
        isNotStatic(tree, tree.getVariable());
        return super.visitAssignment(tree, v);
    }

    @Override
    public Void visitCompoundAssignment(CompoundAssignmentTree tree, Void v) {
        isNotStatic(tree, tree.getVariable());
        return super.visitCompoundAssignment(tree, v);
    }

    @Override
    public Void visitUnary(UnaryTree tree, Void v) {
        Set<Tree.Kind> changing = Set.of(Tree.Kind.PREFIX_INCREMENT, Tree.Kind.POSTFIX_INCREMENT, Tree.Kind.PREFIX_DECREMENT,
            Tree.Kind.POSTFIX_DECREMENT);
        if (changing.contains(tree.getKind())) {
            isNotStatic(tree, tree.getExpression());
        }
        return super.visitUnary(tree, v);
    }
}

import com.sun.source.tree.AssertTree;
import com.sun.source.tree.BinaryTree;
import com.sun.source.tree.ClassTree;
import com.sun.source.tree.CompilationUnitTree;
import com.sun.source.tree.CompoundAssignmentTree;
import com.sun.source.tree.DoWhileLoopTree;
import com.sun.source.tree.ExpressionTree;
import com.sun.source.tree.ForLoopTree;
import com.sun.source.tree.IdentifierTree;
import com.sun.source.tree.LambdaExpressionTree;
import com.sun.source.tree.LiteralTree;
import com.sun.source.tree.MemberReferenceTree;
import com.sun.source.tree.MemberSelectTree;
import com.sun.source.tree.MethodInvocationTree;
import com.sun.source.tree.MethodTree;
import com.sun.source.tree.NewArrayTree;
import com.sun.source.tree.NewClassTree;
import com.sun.source.tree.SynchronizedTree;
import com.sun.source.tree.ThrowTree;
import com.sun.source.tree.Tree;
import com.sun.source.tree.TryTree;
import com.sun.source.tree.TypeCastTree;
import com.sun.source.tree.VariableTree;
import com.sun.source.tree.WhileLoopTree;
import com.sun.source.util.JavacTask;
import com.sun.source.util.SourcePositions;
import com.sun.source.util.TreePath;
import com.sun.source.util.TreePathScanner;
import com.sun.source.util.Trees;
import java.nio.file.Path;
import java.util.HashMap;
import java.util.HashSet;
import java.util.List;
import java.util.Map;
import java.util.Set;
import java.util.TreeMap;
import java.util.TreeSet;
import javax.lang.model.element.Element;
import javax.lang.model.element.ElementKind;
import javax.lang.model.element.Modifier;
import javax.lang.model.type.TypeMirror;
import javax.tools.JavaCompiler;
import javax.tools.StandardJavaFileManager;
import javax.tools.ToolProvider;

/** The rules of ../shared/LANGUAGE.md that the source itself can tell, by the compiler's own trees. */
public final class RulesTest extends TreePathScanner<Void, Void> {
    private static final Path SOURCE = Path.of("src", "main", "java", "GiftShops.java");

    // what the class uses of rules 3 and 4 so far; a use beyond it is looked up there and added here
    private static final Set<String> TYPES = Set.of("int", "long", "boolean", "char", "int[]", "char[]", "void",
            "java.lang.String");
    private static final Set<String> CALLS = Set.of("java.lang.String.charAt(int)", "java.lang.String.indexOf(int)",
            "java.lang.Math.max(int,int)", "java.lang.Math.min(int,int)", "java.lang.Integer.bitCount(int)",
            "java.util.NoSuchElementException.NoSuchElementException(java.lang.String)", "java.lang.Object.Object()");
    private static final Set<String> MAKERS = Set.of("give", "sell", "look");

    private static final int MOST_LINES = 60;
    private static final int MOST_PARAMETERS = 7;
    private static final int MOST_DEEP = 8;
    private static final int MOST_CLASSES = 12;
    private static final int MOST_FIELDS = 20;

    private final Trees trees;
    private final CompilationUnitTree unit;
    private final Map<Element, Set<Element>> callsOf = new HashMap<>();
    private final Map<Element, Integer> fieldsOf = new HashMap<>();
    private final Set<String> thrownIn = new TreeSet<>();
    private Element method;
    private int classes;

    private RulesTest(Trees trees, CompilationUnitTree unit) {
        this.trees = trees;
        this.unit = unit;
    }

    public static void main(String[] args) throws Exception {
        JavaCompiler compiler = ToolProvider.getSystemJavaCompiler();
        try (StandardJavaFileManager files = compiler.getStandardFileManager(null, null, null)) {
            JavacTask task = (JavacTask) compiler.getTask(null, files, null, List.of("-proc:none"), null,
                    files.getJavaFileObjects(SOURCE));
            CompilationUnitTree unit = task.parse().iterator().next();
            task.analyze();
            RulesTest test = new RulesTest(Trees.instance(task), unit);
            test.scan(new TreePath(unit), null);
            test.wholeFile();
        }
        Check.end();
    }

    private void rule(int number, String what, boolean kept) {
        Check.yes("rule " + number + ": " + what + (method == null ? "" : ", in " + method), kept);
    }

    private Element element() {
        return trees.getElement(getCurrentPath());
    }

    private static boolean isOwn(Element e) {
        for (Element at = e; at != null; at = at.getEnclosingElement()) {
            if (at.getSimpleName().contentEquals("GiftShops")) {
                return true;
            }
        }
        return false;
    }

    private void type(TypeMirror t) {
        String name = t.toString();
        rule(3, name, TYPES.contains(name) || name.matches("GiftShops(\\.\\w+)?(\\[\\])?"));
    }

    private void called(Element e) {
        String name = e.getEnclosingElement() + "." + e;
        if (e.getKind() == ElementKind.CONSTRUCTOR) {
            name = e.getEnclosingElement() + "." + e.toString().replaceFirst("^[\\w.]+", "" + e.getEnclosingElement()
                    .getSimpleName());
        }
        if (!isOwn(e)) {
            rule(4, name, CALLS.contains(name));
        } else if (method != null) {
            callsOf.get(method).add(e);
        }
    }

    @Override
    public Void visitClass(ClassTree c, Void none) {
        classes++;
        Element e = element();
        rule(2, c.getSimpleName() + " is a static class inside, or the one outside",
                e.getSimpleName().contentEquals("GiftShops") || e.getModifiers().contains(Modifier.STATIC));
        rule(2, c.getSimpleName() + " is no local class", method == null);
        return super.visitClass(c, none);
    }

    @Override
    public Void visitMethod(MethodTree m, Void none) {
        method = element();
        callsOf.put(method, new HashSet<>());
        SourcePositions at = trees.getSourcePositions();
        long from = at.getStartPosition(unit, m);
        long to = at.getEndPosition(unit, m);
        if (from >= 0 && to >= from) {
            long lines = unit.getLineMap().getLineNumber(to) - unit.getLineMap().getLineNumber(from) + 1;
            rule(11, lines + " lines", lines <= MOST_LINES);
        }
        rule(11, m.getParameters().size() + " parameters", m.getParameters().size() <= MOST_PARAMETERS);
        if (m.getReturnType() != null) {
            type(trees.getTypeMirror(new TreePath(getCurrentPath(), m.getReturnType())));
        }
        super.visitMethod(m, none);
        method = null;
        return null;
    }

    @Override
    public Void visitVariable(VariableTree v, Void none) {
        Element e = element();
        type(e.asType());
        boolean isConstant = e.getModifiers().contains(Modifier.STATIC) && e.getModifiers().contains(Modifier.FINAL);
        if (e.getKind() == ElementKind.FIELD && !isConstant) {
            rule(5, v.getName() + " is no static state", !e.getModifiers().contains(Modifier.STATIC));
            fieldsOf.merge(e.getEnclosingElement(), 1, Integer::sum);
        }
        return super.visitVariable(v, none);
    }

    @Override
    public Void visitMethodInvocation(MethodInvocationTree call, Void none) {
        called(element());
        return super.visitMethodInvocation(call, none);
    }

    @Override
    public Void visitNewClass(NewClassTree made, Void none) {
        called(element());
        rule(2, "no anonymous class", made.getClassBody() == null);
        rule(12, "objects are made in constructors and by few calls", isMaker());
        return super.visitNewClass(made, none);
    }

    @Override
    public Void visitNewArray(NewArrayTree made, Void none) {
        rule(12, "arrays are made in constructors", method != null && method.getKind() == ElementKind.CONSTRUCTOR);
        for (ExpressionTree length : made.getDimensions()) {
            rule(7, "an array's length is written out: " + length, isWrittenOut(length));
        }
        return super.visitNewArray(made, none);
    }

    private boolean isMaker() {
        return method != null && (method.getKind() == ElementKind.CONSTRUCTOR
                || MAKERS.contains(method.getSimpleName().toString()));
    }

    /** A constant, or constants joined by signs. */
    private boolean isWrittenOut(ExpressionTree e) {
        if (e instanceof BinaryTree b) {
            return isWrittenOut(b.getLeftOperand()) && isWrittenOut(b.getRightOperand());
        }
        if (e instanceof IdentifierTree || e instanceof MemberSelectTree) {
            Element named = trees.getElement(TreePath.getPath(unit, e));
            return named.getModifiers().containsAll(Set.of(Modifier.STATIC, Modifier.FINAL));
        }
        return e instanceof LiteralTree;
    }

    @Override
    public Void visitBinary(BinaryTree b, Void none) {
        Tree.Kind sign = b.getKind();
        for (ExpressionTree side : List.of(b.getLeftOperand(), b.getRightOperand())) {
            boolean isText = trees.getTypeMirror(new TreePath(getCurrentPath(), side)).toString().contains("String");
            rule(6, "no text in " + b, !isText);
        }
        if (sign == Tree.Kind.DIVIDE || sign == Tree.Kind.REMAINDER) {
            boolean isSafe = isWrittenOut(b.getRightOperand()) || isTestedDivisor();
            rule(7, "the divisor of " + b + " can't be 0", isSafe);
        }
        return super.visitBinary(b, none);
    }

    @Override
    public Void visitCompoundAssignment(CompoundAssignmentTree t, Void none) {
        Tree.Kind sign = t.getKind();
        rule(7, "no division in " + t,
                sign != Tree.Kind.DIVIDE_ASSIGNMENT && sign != Tree.Kind.REMAINDER_ASSIGNMENT);
        rule(10, "numbers in " + t, trees.getTypeMirror(getCurrentPath()).getKind().isPrimitive());
        return super.visitCompoundAssignment(t, none);
    }

    @Override
    public Void visitForLoop(ForLoopTree t, Void none) {
        boolean counts = t.getCondition() != null && !t.getUpdate().isEmpty();
        rule(9, "a loop counts against a bound: " + t.getCondition(), counts && isBound(t.getCondition()));
        return super.visitForLoop(t, none);
    }

    @Override
    public Void visitWhileLoop(WhileLoopTree t, Void none) {
        rule(9, "a loop has a bound: " + t.getCondition(), isBound(t.getCondition()));
        return super.visitWhileLoop(t, none);
    }

    @Override
    public Void visitDoWhileLoop(DoWhileLoopTree t, Void none) {
        rule(9, "no do", false);
        return super.visitDoWhileLoop(t, none);
    }

    private static boolean isBound(Tree condition) {
        return condition.toString().matches(".*[<>].*");
    }

    // habit tests its divisor in the line before; of expected the class says why it is 2 at least
    private boolean isTestedDivisor() {
        return Set.of("habit", "expected").contains(method.getSimpleName().toString());
    }

    @Override
    public Void visitThrow(ThrowTree t, Void none) {
        thrownIn.add(method.getSimpleName().toString());
        boolean isNew = t.getExpression() instanceof NewClassTree;
        rule(6, "" + t, isNew && ((NewClassTree) t.getExpression()).getArguments().stream()
                .allMatch(a -> a instanceof LiteralTree));
        return super.visitThrow(t, none);
    }

    @Override
    public Void visitTry(TryTree t, Void none) {
        rule(6, "no try", false);
        return super.visitTry(t, none);
    }

    @Override
    public Void visitAssert(AssertTree t, Void none) {
        rule(6, "no assert", false);
        return super.visitAssert(t, none);
    }

    @Override
    public Void visitSynchronized(SynchronizedTree t, Void none) {
        rule(6, "no synchronized", false);
        return super.visitSynchronized(t, none);
    }

    @Override
    public Void visitTypeCast(TypeCastTree t, Void none) {
        rule(7, "a cast of numbers alone: " + t,
                trees.getTypeMirror(getCurrentPath()).getKind().isPrimitive());
        return super.visitTypeCast(t, none);
    }

    @Override
    public Void visitLambdaExpression(LambdaExpressionTree t, Void none) {
        rule(2, "no lambda", false);
        return super.visitLambdaExpression(t, none);
    }

    @Override
    public Void visitMemberReference(MemberReferenceTree t, Void none) {
        rule(2, "no method reference", false);
        return super.visitMemberReference(t, none);
    }

    private void wholeFile() {
        rule(6, "only look throws: " + thrownIn, thrownIn.equals(Set.of("look")));
        rule(11, classes + " classes", classes <= MOST_CLASSES);
        fieldsOf.forEach((c, fields) -> rule(11, fields + " fields of " + c, fields <= MOST_FIELDS));
        Map<Element, Integer> known = new HashMap<>();
        Map<Integer, String> chains = new TreeMap<>();
        for (Element m : callsOf.keySet()) {
            chains.put(deep(m, known), "" + m);
        }
        chains.forEach((deep, from) -> rule(11, deep + " calls deep from " + from, deep <= MOST_DEEP));
    }

    /** How many methods stand open at most; those that call one another count as one. */
    private int deep(Element m, Map<Element, Integer> known) {
        if (known.containsKey(m)) {
            return known.get(m);
        }
        Set<Element> group = groupOf(m);
        int most = 0;
        for (Element one : group) {
            for (Element called : callsOf.getOrDefault(one, Set.of())) {
                if (!group.contains(called)) {
                    most = Math.max(most, deep(called, known));
                }
            }
        }
        for (Element one : group) {
            known.put(one, most + 1);
        }
        return most + 1;
    }

    private Set<Element> groupOf(Element m) {
        Set<Element> group = new HashSet<>(Set.of(m));
        for (Element other : reached(m)) {
            if (reached(other).contains(m)) {
                group.add(other);
            }
        }
        return group;
    }

    private Set<Element> reached(Element from) {
        Set<Element> all = new HashSet<>();
        List<Element> next = List.copyOf(callsOf.getOrDefault(from, Set.of()));
        while (!next.isEmpty()) {
            Set<Element> found = new HashSet<>();
            for (Element e : next) {
                if (all.add(e)) {
                    found.addAll(callsOf.getOrDefault(e, Set.of()));
                }
            }
            next = List.copyOf(found);
        }
        return all;
    }
}

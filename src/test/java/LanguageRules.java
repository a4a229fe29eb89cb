import com.sun.source.tree.ArrayAccessTree;
import com.sun.source.tree.AssertTree;
import com.sun.source.tree.AssignmentTree;
import com.sun.source.tree.BinaryTree;
import com.sun.source.tree.BlockTree;
import com.sun.source.tree.ClassTree;
import com.sun.source.tree.CompilationUnitTree;
import com.sun.source.tree.CompoundAssignmentTree;
import com.sun.source.tree.DoWhileLoopTree;
import com.sun.source.tree.ExpressionTree;
import com.sun.source.tree.ForLoopTree;
import com.sun.source.tree.IdentifierTree;
import com.sun.source.tree.ImportTree;
import com.sun.source.tree.LambdaExpressionTree;
import com.sun.source.tree.MemberReferenceTree;
import com.sun.source.tree.MethodInvocationTree;
import com.sun.source.tree.MethodTree;
import com.sun.source.tree.NewArrayTree;
import com.sun.source.tree.NewClassTree;
import com.sun.source.tree.SynchronizedTree;
import com.sun.source.tree.ThrowTree;
import com.sun.source.tree.Tree;
import com.sun.source.tree.TryTree;
import com.sun.source.tree.TypeCastTree;
import com.sun.source.tree.UnaryTree;
import com.sun.source.tree.VariableTree;
import com.sun.source.tree.WhileLoopTree;
import com.sun.source.util.JavacTask;
import com.sun.source.util.TreePath;
import com.sun.source.util.TreePathScanner;
import com.sun.source.util.TreeScanner;
import com.sun.source.util.Trees;
import java.io.IOException;
import java.net.URI;
import java.util.ArrayList;
import java.util.HashSet;
import java.util.LinkedHashMap;
import java.util.LinkedHashSet;
import java.util.List;
import java.util.Map;
import java.util.Set;
import javax.lang.model.element.Element;
import javax.lang.model.element.ElementKind;
import javax.lang.model.element.ExecutableElement;
import javax.lang.model.element.Modifier;
import javax.lang.model.element.TypeElement;
import javax.lang.model.element.VariableElement;
import javax.lang.model.type.ArrayType;
import javax.lang.model.type.DeclaredType;
import javax.lang.model.type.TypeKind;
import javax.lang.model.type.TypeMirror;
import javax.tools.JavaFileObject;
import javax.tools.SimpleJavaFileObject;
import javax.tools.ToolProvider;

/**
 * What of LANGUAGE.md's rules the compiler's own tree of a source shows. Where a rule leaves more than
 * FlapBoard uses (doubles, casts among own classes, records), it is stricter than the rule: whoever wants
 * more of the rule in the class widens it here.
 */
final class LanguageRules extends TreePathScanner<Void, Void> {
    private static final int PARAMETERS = 7, LINES = 60, CALLS_DEEP = 8, CLASSES = 12, FIELDS = 20;
    private static final Map<String, Set<String>> LIBRARY = Map.of(
        "java.lang.String", Set.of("length", "charAt", "isEmpty", "equals", "indexOf", "substring", "toCharArray"),
        "java.lang.StringBuilder", Set.of("append", "charAt", "setCharAt", "setLength", "deleteCharAt", "reverse", "length", "toString"),
        "java.lang.AbstractStringBuilder", Set.of("charAt", "setCharAt", "setLength", "length"),
        "java.lang.Integer", Set.of("compare", "max", "min", "bitCount", "signum", "numberOfTrailingZeros", "numberOfLeadingZeros"),
        "java.lang.Long", Set.of("compare", "max", "min", "bitCount", "signum", "numberOfTrailingZeros", "numberOfLeadingZeros"),
        "java.lang.Math", Set.of("max", "min", "abs", "floorDiv", "floorMod"),
        "java.lang.System", Set.of("arraycopy"),
        "java.util.Arrays", Set.of("copyOf", "copyOfRange", "fill"));

    private final List<String> breaches = new ArrayList<>();
    private final Map<ExecutableElement, Set<Element>> calls = new LinkedHashMap<>();
    private final Set<String> publicNames = new HashSet<>();
    private final CompilationUnitTree unit;
    private final Trees trees;
    private ExecutableElement within;
    private boolean inConstructor;
    private int classes = 0;
    private int openLoops = 0;

    private LanguageRules(CompilationUnitTree unit, Trees trees) {
        this.unit = unit;
        this.trees = trees;
    }

    /** Each breach as 'rule N, line L: what'; empty: none was seen. */
    static List<String> breachesOf(String source) throws IOException {
        JavaFileObject file = new SimpleJavaFileObject(URI.create("string:///FlapBoard.java"), JavaFileObject.Kind.SOURCE) {
            @Override public CharSequence getCharContent(boolean lax) {
                return source;
            }
        };
        List<String> errors = new ArrayList<>();
        JavacTask task = (JavacTask) ToolProvider.getSystemJavaCompiler()
            .getTask(null, null, told -> errors.add(told.toString()), List.of("-proc:none"), null, List.of(file));
        CompilationUnitTree unit = task.parse().iterator().next();
        task.analyze();
        LanguageRules rules = new LanguageRules(unit, Trees.instance(task));
        for (String error : errors) {
            rules.breaches.add("not compiled: " + error);
        }
        if (errors.isEmpty()) {
            rules.scan(unit, null);
            rules.lookAtCalls();
            rules.told(11, unit, rules.classes > CLASSES, "more than twelve classes");
        }
        return rules.breaches;
    }

    private void told(int rule, Tree where, boolean broken, String what) {
        if (broken) {
            long line = unit.getLineMap().getLineNumber(trees.getSourcePositions().getStartPosition(unit, where));
            breaches.add("rule " + rule + ", line " + line + ": " + what);
        }
    }

    private Element here() {
        return trees.getElement(getCurrentPath());
    }

    private TypeMirror typeOf(Tree tree) {
        return trees.getTypeMirror(TreePath.getPath(unit, tree));
    }

    private boolean isOwn(Element e) {
        Element at = e;
        while (at != null && at.getKind() != ElementKind.PACKAGE) {
            if (at instanceof TypeElement type && type.getQualifiedName().contentEquals("FlapBoard")) {
                return true;
            }
            at = at.getEnclosingElement();
        }
        return false;
    }

    // ---- rules 1, 2: the face, classes inside

    @Override public Void visitImport(ImportTree tree, Void v) {
        String name = tree.getQualifiedIdentifier().toString();
        told(4, tree, !Set.of("java.util.ArrayList", "java.util.List", "java.util.Arrays", "java.util.Iterator").contains(name), "import of " + name);
        return super.visitImport(tree, v);
    }

    @Override public Void visitClass(ClassTree tree, Void v) {
        classes++;
        TypeElement type = (TypeElement) here();
        Set<Modifier> signs = type.getModifiers();
        boolean outer = type.getEnclosingElement().getKind() == ElementKind.PACKAGE;
        if (outer) {
            told(1, tree, !signs.contains(Modifier.PUBLIC) || !signs.contains(Modifier.FINAL), "not public and final");
            namePublicOnes(type);
        } else {
            told(2, tree, type.getEnclosingElement().getKind() != ElementKind.CLASS, "a class within a method");
            told(2, tree, !signs.contains(Modifier.STATIC), "a class inside that is not static");
            told(1, tree, signs.contains(Modifier.PUBLIC) || signs.contains(Modifier.PROTECTED), "a class inside that is public");
        }
        int fields = 0;
        for (Element e : type.getEnclosedElements()) {
            fields += e.getKind() == ElementKind.FIELD && !e.getModifiers().contains(Modifier.STATIC) ? 1 : 0;
        }
        told(11, tree, fields > FIELDS, "more than twenty fields");
        return super.visitClass(tree, v);
    }

    private void namePublicOnes(TypeElement type) {
        for (Element e : type.getEnclosedElements()) {
            if (e.getKind() == ElementKind.METHOD && e.getModifiers().contains(Modifier.PUBLIC)) {
                publicNames.add(e.getSimpleName().toString());
            }
        }
    }

    @Override public Void visitLambdaExpression(LambdaExpressionTree tree, Void v) {
        told(2, tree, true, "a lambda");
        return super.visitLambdaExpression(tree, v);
    }

    @Override public Void visitMemberReference(MemberReferenceTree tree, Void v) {
        told(2, tree, true, "a method reference");
        return super.visitMemberReference(tree, v);
    }

    // ---- rules 3, 5: types, static fields

    private boolean isAllowed(TypeMirror type) {
        if (type.getKind() == TypeKind.ARRAY) {
            TypeMirror part = ((ArrayType) type).getComponentType();
            if (part.getKind() != TypeKind.ARRAY) {
                return isAllowed(part);
            }
            TypeMirror number = ((ArrayType) part).getComponentType();
            return number.getKind().isPrimitive() && isAllowed(number);
        }
        if (type.getKind() == TypeKind.DECLARED) {
            TypeElement e = (TypeElement) ((DeclaredType) type).asElement();
            return isOwn(e) || e.getQualifiedName().contentEquals("java.lang.String") || e.getQualifiedName().contentEquals("java.lang.StringBuilder");
        }
        return type.getKind() != TypeKind.DOUBLE && type.getKind() != TypeKind.FLOAT;
    }

    @Override public Void visitVariable(VariableTree tree, Void v) {
        VariableElement e = (VariableElement) here();
        told(3, tree, !isAllowed(e.asType()), e + " is of type " + e.asType());
        if (e.getKind() == ElementKind.FIELD && e.getModifiers().contains(Modifier.STATIC)) {
            told(5, tree, !e.getModifiers().contains(Modifier.FINAL), "static " + e + " is not final");
            boolean array = e.asType().getKind() == TypeKind.ARRAY;
            told(5, tree, array && !isWrittenOut(tree.getInitializer()), "the array " + e + " is not written out");
            told(5, tree, !array && e.getConstantValue() == null, e + " is no constant");
        }
        return super.visitVariable(tree, v);
    }

    private static boolean isWrittenOut(ExpressionTree value) {
        return value instanceof NewArrayTree made && made.getInitializers() != null;
    }

    @Override public Void visitBlock(BlockTree tree, Void v) {
        boolean inClass = getCurrentPath().getParentPath().getLeaf() instanceof ClassTree;
        told(5, tree, inClass && tree.isStatic(), "a static block");
        return super.visitBlock(tree, v);
    }

    private void lookAtTarget(Tree where, ExpressionTree target) {
        ExpressionTree at = target;
        while (at instanceof ArrayAccessTree place) {
            at = place.getExpression();
        }
        Element e = trees.getElement(TreePath.getPath(unit, at));
        told(5, where, at != target && e != null && e.getKind() == ElementKind.FIELD && e.getModifiers().contains(Modifier.STATIC),
            "the static array " + e + " is changed");
    }

    @Override public Void visitAssignment(AssignmentTree tree, Void v) {
        lookAtTarget(tree, tree.getVariable());
        return super.visitAssignment(tree, v);
    }

    @Override public Void visitUnary(UnaryTree tree, Void v) {
        if (Set.of(Tree.Kind.POSTFIX_INCREMENT, Tree.Kind.POSTFIX_DECREMENT, Tree.Kind.PREFIX_INCREMENT, Tree.Kind.PREFIX_DECREMENT).contains(tree.getKind())) {
            lookAtTarget(tree, tree.getExpression());
        }
        return super.visitUnary(tree, v);
    }

    // ---- rule 6: what must not stand there

    @Override public Void visitThrow(ThrowTree tree, Void v) {
        told(6, tree, true, "throw");
        return super.visitThrow(tree, v);
    }

    @Override public Void visitTry(TryTree tree, Void v) {
        told(6, tree, true, "try");
        return super.visitTry(tree, v);
    }

    @Override public Void visitSynchronized(SynchronizedTree tree, Void v) {
        told(6, tree, true, "synchronized");
        return super.visitSynchronized(tree, v);
    }

    @Override public Void visitAssert(AssertTree tree, Void v) {
        told(6, tree, true, "assert");
        return super.visitAssert(tree, v);
    }

    @Override public Void visitTypeCast(TypeCastTree tree, Void v) {
        told(6, tree, !typeOf(tree.getType()).getKind().isPrimitive(), "a cast to " + tree.getType());
        told(3, tree, !isAllowed(typeOf(tree.getType())), "a cast to " + tree.getType());
        return super.visitTypeCast(tree, v);
    }

    // ---- rules 6, 7, 10: operators

    @Override public Void visitBinary(BinaryTree tree, Void v) {
        switch (tree.getKind()) {
            case DIVIDE: case REMAINDER:
                lookAtDivisor(tree, tree.getRightOperand());
                break;
            case PLUS:
                told(10, tree, isText(tree), "texts joined by +");
                break;
            case EQUAL_TO: case NOT_EQUAL_TO:
                told(6, tree, isText(tree.getLeftOperand()) && isText(tree.getRightOperand()), "== of two Strings");
                break;
            default:
                break;
        }
        return super.visitBinary(tree, v);
    }

    @Override public Void visitCompoundAssignment(CompoundAssignmentTree tree, Void v) {
        lookAtTarget(tree, tree.getVariable());
        if (tree.getKind() == Tree.Kind.DIVIDE_ASSIGNMENT || tree.getKind() == Tree.Kind.REMAINDER_ASSIGNMENT) {
            lookAtDivisor(tree, tree.getExpression());
        }
        told(10, tree, isText(tree.getVariable()), "texts joined by +=");
        return super.visitCompoundAssignment(tree, v);
    }

    private boolean isText(Tree tree) {
        return typeOf(tree).toString().equals("java.lang.String");
    }

    /** A divisor that is no constant must have been compared earlier in the same method. */
    private void lookAtDivisor(Tree where, ExpressionTree divisor) {
        String name = divisor.toString();
        Element e = trees.getElement(TreePath.getPath(unit, divisor));
        boolean constant = name.matches("[1-9][0-9]*L?") || e instanceof VariableElement field && isAboveNought(field.getConstantValue());
        told(7, where, !constant && !isComparedAhead(where, name), "the divisor " + name + " is not looked at");
    }

    private static boolean isAboveNought(Object constant) {
        return constant instanceof Number number && number.longValue() > 0;
    }

    private boolean isComparedAhead(Tree where, String name) {
        Tree method = within == null ? null : trees.getTree(within);
        long place = trees.getSourcePositions().getStartPosition(unit, where);
        boolean[] compared = {false};
        new TreeScanner<Void, Void>() {
            @Override public Void visitBinary(BinaryTree tree, Void v) {
                boolean ahead = trees.getSourcePositions().getStartPosition(unit, tree) < place;
                compared[0] |= ahead && isComparison(tree) && tree.getLeftOperand().toString().equals(name);
                return super.visitBinary(tree, v);
            }
        }.scan(method, null);
        return compared[0];
    }

    private static boolean isComparison(BinaryTree tree) {
        return Set.of(Tree.Kind.LESS_THAN, Tree.Kind.LESS_THAN_EQUAL, Tree.Kind.GREATER_THAN, Tree.Kind.GREATER_THAN_EQUAL,
            Tree.Kind.EQUAL_TO, Tree.Kind.NOT_EQUAL_TO).contains(tree.getKind());
    }

    // ---- rule 9: loops

    /** A condition that must hold for the loop to go on, and that compares a counter with a bound or a chain with null. */
    private boolean hasBound(ExpressionTree condition) {
        if (condition instanceof com.sun.source.tree.ParenthesizedTree inner) {
            return hasBound(inner.getExpression());
        }
        if (!(condition instanceof BinaryTree tree)) {
            return false;
        }
        if (tree.getKind() == Tree.Kind.CONDITIONAL_AND) {
            return hasBound(tree.getLeftOperand()) || hasBound(tree.getRightOperand());
        }
        boolean chain = tree.getKind() == Tree.Kind.NOT_EQUAL_TO && tree.getRightOperand().getKind() == Tree.Kind.NULL_LITERAL;
        return chain || isComparison(tree) && tree.getKind() != Tree.Kind.EQUAL_TO && tree.getKind() != Tree.Kind.NOT_EQUAL_TO;
    }

    @Override public Void visitForLoop(ForLoopTree tree, Void v) {
        told(9, tree, !hasBound(tree.getCondition()), "a for loop without a bound");
        return super.visitForLoop(tree, v);
    }

    @Override public Void visitWhileLoop(WhileLoopTree tree, Void v) {
        told(9, tree, !hasBound(tree.getCondition()), "a while loop without a bound");
        openLoops++;
        super.visitWhileLoop(tree, v);
        openLoops--;
        return null;
    }

    @Override public Void visitDoWhileLoop(DoWhileLoopTree tree, Void v) {
        told(9, tree, !hasBound(tree.getCondition()), "a do loop without a bound");
        openLoops++;
        super.visitDoWhileLoop(tree, v);
        openLoops--;
        return null;
    }

    // ---- rules 1, 4, 8, 11: methods and calls

    @Override public Void visitMethod(MethodTree tree, Void v) {
        within = (ExecutableElement) here();
        inConstructor = within.getKind() == ElementKind.CONSTRUCTOR;
        calls.putIfAbsent(within, new LinkedHashSet<>());
        String name = tree.getName().toString();
        told(1, tree, publicNames.contains(name) && !isOfTheFace(within), "a method inside bears the public name " + name);
        told(3, tree, !inConstructor && !isAllowed(within.getReturnType()), name + " answers " + within.getReturnType());
        told(11, tree, tree.getParameters().size() > PARAMETERS, name + " takes more than seven parameters");
        told(11, tree, linesOf(tree) > LINES, name + " has more than sixty lines");
        told(6, tree, !tree.getThrows().isEmpty(), name + " throws");
        told(6, tree, within.getModifiers().contains(Modifier.SYNCHRONIZED), "synchronized");
        super.visitMethod(tree, v);
        within = null;
        inConstructor = false;
        return null;
    }

    private static boolean isOfTheFace(ExecutableElement method) {
        return method.getModifiers().contains(Modifier.PUBLIC)
            && method.getEnclosingElement().getEnclosingElement().getKind() == ElementKind.PACKAGE;
    }

    private long linesOf(Tree tree) {
        long first = unit.getLineMap().getLineNumber(trees.getSourcePositions().getStartPosition(unit, tree));
        return unit.getLineMap().getLineNumber(trees.getSourcePositions().getEndPosition(unit, tree)) - first + 1;
    }

    @Override public Void visitMethodInvocation(MethodInvocationTree tree, Void v) {
        ExecutableElement called = (ExecutableElement) here();
        TypeElement owner = (TypeElement) called.getEnclosingElement();
        boolean ofSuper = called.getKind() == ElementKind.CONSTRUCTOR;
        boolean cloned = called.getSimpleName().contentEquals("clone") && tree.getArguments().isEmpty();
        Set<String> allowed = LIBRARY.getOrDefault(owner.getQualifiedName().toString(), Set.of());
        told(4, tree, !isOwn(called) && !ofSuper && !cloned && !allowed.contains(called.getSimpleName().toString()),
            owner + "." + called.getSimpleName() + " is not in the list");
        told(12, tree, inConstructor && !ofSuper && canBeOverridden(called), "a constructor calls what could be overridden");
        if (within != null && !ofSuper) {
            calls.get(within).add(called);
        }
        return super.visitMethodInvocation(tree, v);
    }

    private boolean canBeOverridden(ExecutableElement called) {
        Set<Modifier> signs = called.getModifiers();
        return isOwn(called) && !signs.contains(Modifier.PRIVATE) && !signs.contains(Modifier.STATIC) && !signs.contains(Modifier.FINAL)
            && !called.getEnclosingElement().getModifiers().contains(Modifier.FINAL);
    }

    private void lookAtCalls() {
        for (ExecutableElement method : calls.keySet()) {
            boolean recursive = reached(method).contains(method);
            Tree tree = trees.getTree(method);
            told(8, tree == null ? unit : tree, recursive && !method.getModifiers().contains(Modifier.PRIVATE), method + " calls itself, but is not private");
            told(8, tree == null ? unit : tree, recursive && method.getParameters().isEmpty(), method + " calls itself without a depth");
            int deep = depth(method, new LinkedHashSet<>());
            told(11, tree == null ? unit : tree, deep > CALLS_DEEP, "calls from " + method + " go " + deep + " deep");
        }
    }

    private Set<Element> reached(ExecutableElement from) {
        Set<Element> all = new LinkedHashSet<>(calls.get(from));
        List<Element> open = new ArrayList<>(all);
        while (!open.isEmpty()) {
            for (Element next : calls.getOrDefault(open.remove(open.size() - 1), Set.of())) {
                if (all.add(next)) {
                    open.add(next);
                }
            }
        }
        return all;
    }

    /** How many methods stand open at once, the library's too, one that calls itself counted once. */
    private int depth(Element method, Set<Element> open) {
        int deepest = 0;
        open.add(method);
        for (Element next : calls.getOrDefault(method, Set.of())) {
            deepest = Math.max(deepest, open.contains(next) ? 0 : depth(next, open));
        }
        open.remove(method);
        return deepest + 1;
    }

    // ---- rules 3, 12: what is made

    @Override public Void visitNewClass(NewClassTree tree, Void v) {
        told(2, tree, tree.getClassBody() != null, "an anonymous class");
        told(3, tree, !isAllowed(typeOf(tree)), "a new " + tree.getIdentifier());
        told(12, tree, openLoops > 0, "an object made in a loop that has no counter");
        return super.visitNewClass(tree, v);
    }

    @Override public Void visitNewArray(NewArrayTree tree, Void v) {
        told(3, tree, !isAllowed(typeOf(tree)), "a new array of type " + typeOf(tree));
        told(12, tree, openLoops > 0, "an array made in a loop that has no counter");
        return super.visitNewArray(tree, v);
    }

    @Override public Void visitIdentifier(IdentifierTree tree, Void v) {
        boolean self = tree.getName().contentEquals("this");
        Tree parent = getCurrentPath().getParentPath().getLeaf();
        told(12, tree, self && inConstructor && !(parent instanceof com.sun.source.tree.MemberSelectTree)
            && !(parent instanceof MethodInvocationTree), "a constructor hands out its object");
        told(12, tree, self && inConstructor && parent instanceof MethodInvocationTree call && call.getArguments().contains(tree),
            "a constructor hands out its object");
        return super.visitIdentifier(tree, v);
    }
}

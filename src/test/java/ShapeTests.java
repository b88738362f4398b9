import com.sun.source.tree.ArrayAccessTree;
import com.sun.source.tree.BinaryTree;
import com.sun.source.tree.BlockTree;
import com.sun.source.tree.CompilationUnitTree;
import com.sun.source.tree.ConditionalExpressionTree;
import com.sun.source.tree.ExpressionTree;
import com.sun.source.tree.ForLoopTree;
import com.sun.source.tree.IdentifierTree;
import com.sun.source.tree.IfTree;
import com.sun.source.tree.LiteralTree;
import com.sun.source.tree.MethodInvocationTree;
import com.sun.source.tree.MethodTree;
import com.sun.source.tree.NewArrayTree;
import com.sun.source.tree.NewClassTree;
import com.sun.source.tree.StatementTree;
import com.sun.source.tree.Tree;
import com.sun.source.tree.TypeCastTree;
import com.sun.source.tree.VariableTree;
import com.sun.source.tree.WhileLoopTree;
import com.sun.source.util.JavacTask;
import com.sun.source.util.TreePath;
import com.sun.source.util.TreePathScanner;
import com.sun.source.util.Trees;
import java.nio.file.Path;
import java.util.ArrayList;
import java.util.EnumSet;
import java.util.HashMap;
import java.util.LinkedHashMap;
import java.util.LinkedHashSet;
import java.util.List;
import java.util.Map;
import java.util.Set;
import java.util.TreeSet;
import java.util.regex.Matcher;
import java.util.regex.Pattern;
import javax.lang.model.element.Element;
import javax.lang.model.element.ElementKind;
import javax.lang.model.element.ExecutableElement;
import javax.lang.model.element.Modifier;
import javax.lang.model.element.VariableElement;
import javax.lang.model.type.ArrayType;
import javax.lang.model.type.TypeKind;
import javax.lang.model.type.TypeMirror;
import javax.tools.JavaCompiler;
import javax.tools.StandardJavaFileManager;
import javax.tools.ToolProvider;

/** What of LANGUAGE.md is seen in the program's tree alone, each reference resolved by the compiler. */
public final class ShapeTests extends TreePathScanner<Void, Void> {
    private static final Path SOURCE = Path.of("src/main/java/HeardBackward.java");
    private static final int DEEPEST_CALLS = 8;
    private static final Check CHECK = new Check();

    /** Of what rule 4 lets be used, what the class uses. */
    private static final Set<String> LIBRARY = Set.of("Object.<init>", "String.length", "String.charAt",
            "Math.max", "Math.min", "Integer.bitCount", "System.arraycopy");
    private static final Set<Tree.Kind> NEVER = EnumSet.of(Tree.Kind.THROW, Tree.Kind.TRY, Tree.Kind.CATCH,
            Tree.Kind.SYNCHRONIZED, Tree.Kind.ASSERT, Tree.Kind.LAMBDA_EXPRESSION, Tree.Kind.MEMBER_REFERENCE,
            Tree.Kind.INSTANCE_OF, Tree.Kind.DO_WHILE_LOOP, Tree.Kind.ENHANCED_FOR_LOOP, Tree.Kind.IMPORT,
            Tree.Kind.PACKAGE, Tree.Kind.ANNOTATION, Tree.Kind.DIVIDE_ASSIGNMENT, Tree.Kind.REMAINDER_ASSIGNMENT);
    /** What calls itself, and does so under a guard on the depth. */
    private static final Set<String> RECURSIONS = Set.of("isWon", "walk");

    private final Trees trees;
    private final Map<ExecutableElement, Set<ExecutableElement>> calls = new LinkedHashMap<>();
    private final Map<ExecutableElement, MethodTree> bodies = new HashMap<>();
    private final Map<String, Integer> seen = new HashMap<>();

    private ShapeTests(Trees trees) {
        this.trees = trees;
    }

    public static void main(String[] args) throws Exception {
        JavaCompiler compiler = ToolProvider.getSystemJavaCompiler();
        try (StandardJavaFileManager files = compiler.getStandardFileManager(null, null, null)) {
            JavacTask task = (JavacTask) compiler.getTask(null, files, null, List.of("--release", "17"), null,
                    files.getJavaFileObjects(SOURCE));
            ShapeTests tests = new ShapeTests(Trees.instance(task));
            Iterable<? extends Tree> units = task.parse();
            task.analyze();
            units.forEach(unit -> tests.scan(new TreePath((CompilationUnitTree) unit), null));
            tests.recursion();
            tests.depth();
            for (String part : new String[] {"place", "divisor", "loop", "row", "object", "own call", "library call"}) {
                CHECK.holds("found none: " + part, tests.seen.getOrDefault(part, 0) > 0);
            }
        }
        CHECK.end("ShapeTests");
    }

    @Override
    public Void scan(Tree tree, Void none) {
        if (tree != null) {
            CHECK.holds("rules 2, 4, 6: " + tree.getKind() + " in " + here(), !NEVER.contains(tree.getKind()));
        }
        return super.scan(tree, none);
    }

    private void found(String part) {
        seen.merge(part, 1, Integer::sum);
    }

    private String here() {
        ExecutableElement method = getCurrentPath() == null ? null : enclosing();
        return method == null ? "no method" : method.getEnclosingElement().getSimpleName() + "." + method;
    }

    private ExecutableElement enclosing() {
        for (TreePath p = getCurrentPath(); p != null; p = p.getParentPath()) {
            if (p.getLeaf() instanceof MethodTree) {
                return (ExecutableElement) trees.getElement(p);
            }
        }
        return null;
    }

    // ---- rules 7 and 9: places, divisors, loops

    @Override
    public Void visitArrayAccess(ArrayAccessTree access, Void none) {
        found("place");
        String test = access.getIndex() + " < " + access.getExpression() + ".length";
        CHECK.holds("rule 7: nothing looks at " + access + " in " + here(), isUnder(test) && isNotBelowZero(access.getIndex()));
        return super.visitArrayAccess(access, none);
    }

    /** Either tested beside the bound, or counted up from 0. */
    private boolean isNotBelowZero(ExpressionTree index) {
        return isUnder(index + " >= 0") || isUnder("int " + index + " = 0");
    }

    @Override
    public Void visitBinary(BinaryTree tree, Void none) {
        if (tree.getKind() == Tree.Kind.DIVIDE || tree.getKind() == Tree.Kind.REMAINDER) {
            found("divisor");
            ExpressionTree by = tree.getRightOperand();
            CHECK.holds("rule 7: nothing looks at the divisor of " + tree + " in " + here(),
                    isFixed(by) || isUnder(by + " > 0") || isLeftAhead(by + " == 0"));
        }
        return super.visitBinary(tree, none);
    }

    private boolean isFixed(ExpressionTree by) {
        return by instanceof LiteralTree && ((Number) ((LiteralTree) by).getValue()).longValue() != 0;
    }

    /** Whether an if, a for, a while or a ?: around it, on the side where it holds, asks for this. */
    private boolean isUnder(String test) {
        Tree inner = null;
        for (TreePath p = getCurrentPath(); p != null && !(p.getLeaf() instanceof MethodTree); p = p.getParentPath()) {
            Tree leaf = p.getLeaf();
            String asked = "";
            if (leaf instanceof IfTree && ((IfTree) leaf).getThenStatement() == inner) {
                asked = ((IfTree) leaf).getCondition().toString();
            } else if (leaf instanceof WhileLoopTree && ((WhileLoopTree) leaf).getStatement() == inner) {
                asked = ((WhileLoopTree) leaf).getCondition().toString();
            } else if (leaf instanceof ForLoopTree && ((ForLoopTree) leaf).getStatement() == inner) {
                asked = ((ForLoopTree) leaf).getInitializer() + " " + ((ForLoopTree) leaf).getCondition();
            } else if (leaf instanceof ConditionalExpressionTree && ((ConditionalExpressionTree) leaf).getTrueExpression() == inner) {
                asked = ((ConditionalExpressionTree) leaf).getCondition().toString();
            }
            if (says(asked, test) && !asked.contains("||")) {
                return true;
            }
            inner = leaf;
        }
        return false;
    }

    /** Whether, ahead of it in a block around it, an if leaves the block where this is so. */
    private boolean isLeftAhead(String test) {
        Tree inner = null;
        for (TreePath p = getCurrentPath(); p != null && !(p.getLeaf() instanceof MethodTree); p = p.getParentPath()) {
            if (p.getLeaf() instanceof BlockTree) {
                for (StatementTree ahead : ((BlockTree) p.getLeaf()).getStatements()) {
                    if (ahead == inner) {
                        break;
                    }
                    if (ahead instanceof IfTree && says(((IfTree) ahead).getCondition().toString(), test)
                            && leaves(((IfTree) ahead).getThenStatement())) {
                        return true;
                    }
                }
            }
            inner = p.getLeaf();
        }
        return false;
    }

    private static boolean leaves(StatementTree tree) {
        List<? extends StatementTree> all = tree instanceof BlockTree ? ((BlockTree) tree).getStatements() : List.of(tree);
        Tree.Kind last = all.isEmpty() ? Tree.Kind.EMPTY_STATEMENT : all.get(all.size() - 1).getKind();
        return last == Tree.Kind.RETURN || last == Tree.Kind.BREAK;
    }

    private static boolean says(String asked, String test) {
        return Pattern.compile("(?<![\\w.])" + Pattern.quote(test) + "(?![\\w.])").matcher(asked).find();
    }

    @Override
    public Void visitForLoop(ForLoopTree loop, Void none) {
        String update = loop.getUpdate().toString();
        isCounted(loop.getCondition(), update, loop.getStatement().toString());
        return super.visitForLoop(loop, none);
    }

    @Override
    public Void visitWhileLoop(WhileLoopTree loop, Void none) {
        String update = "";
        if (loop.getStatement() instanceof BlockTree) {
            for (StatementTree step : ((BlockTree) loop.getStatement()).getStatements()) {
                update += step.getKind() == Tree.Kind.EXPRESSION_STATEMENT ? step.toString() : "";
            }
        }
        isCounted(loop.getCondition(), update, loop.getStatement().toString());
        return super.visitWhileLoop(loop, none);
    }

    /** A counter against a bound: "i < .." is asked, i++ is done each time, and nothing else is done to i. */
    private void isCounted(ExpressionTree condition, String update, String body) {
        found("loop");
        String asked = condition == null ? "" : condition.toString();
        boolean counted = false;
        Matcher m = Pattern.compile("(?<![\\w.])(\\w+) < ").matcher(asked);
        while (m.find() && !asked.contains("||")) {
            String i = m.group(1);
            counted |= says(update, i + "++") && !Pattern.compile("\\b" + i + "\\s*([-+*/%&|^]|<<|>>)?=[^=]|\\b" + i + "--|--" + i + "\\b")
                    .matcher(body).find();
        }
        CHECK.holds("rule 9: no counter against a bound: " + asked + " in " + here(), counted);
    }

    // ---- rules 3, 4 and 12: types, the library, what is made

    @Override
    public Void visitVariable(VariableTree tree, Void none) {
        Element e = trees.getElement(getCurrentPath());
        CHECK.holds("rule 3: the type of " + tree + " in " + here(), isAllowed(e.asType()));
        if (e.getKind() == ElementKind.FIELD && e.getModifiers().contains(Modifier.STATIC)) {
            CHECK.holds("rule 5: a constant written out: " + tree, ((VariableElement) e).getConstantValue() != null);
        }
        return super.visitVariable(tree, none);
    }

    private static boolean isAllowed(TypeMirror type) {
        if (type.getKind() == TypeKind.ARRAY) {
            return isAllowed(((ArrayType) type).getComponentType());
        }
        String name = type.toString();
        return type.getKind().isPrimitive() && type.getKind() != TypeKind.DOUBLE && type.getKind() != TypeKind.FLOAT
                || name.equals("java.lang.String") || name.startsWith("HeardBackward");
    }

    @Override
    public Void visitTypeCast(TypeCastTree cast, Void none) {
        CHECK.holds("rule 6: a cast of an object: " + cast, cast.getType().getKind() == Tree.Kind.PRIMITIVE_TYPE);
        return super.visitTypeCast(cast, none);
    }

    @Override
    public Void visitNewArray(NewArrayTree made, Void none) {
        found("row");
        isMadeInConstructor(made);
        for (ExpressionTree length : made.getDimensions()) {
            TreePath path = new TreePath(getCurrentPath(), length);
            Element e = length instanceof IdentifierTree ? trees.getElement(path) : null;
            boolean fixed = e instanceof VariableElement && ((VariableElement) e).getConstantValue() instanceof Integer
                    && (Integer) ((VariableElement) e).getConstantValue() >= 0;
            CHECK.holds("rule 7: nothing looks at the length of " + made, fixed || length.toString().matches("Math\\.max\\(\\w+, 1\\)"));
        }
        return super.visitNewArray(made, none);
    }

    @Override
    public Void visitNewClass(NewClassTree made, Void none) {
        found("object");
        isMadeInConstructor(made);
        called(trees.getElement(getCurrentPath()));
        return super.visitNewClass(made, none);
    }

    private void isMadeInConstructor(Tree made) {
        ExecutableElement method = enclosing();
        CHECK.holds("rule 12: " + made + " is made in " + here(), method == null || method.getKind() == ElementKind.CONSTRUCTOR);
    }

    // ---- rules 8 and 11: recursion, how deep calls go

    @Override
    public Void visitMethod(MethodTree method, Void none) {
        ExecutableElement e = (ExecutableElement) trees.getElement(getCurrentPath());
        calls.computeIfAbsent(e, key -> new LinkedHashSet<>());
        bodies.put(e, method);
        return super.visitMethod(method, none);
    }

    @Override
    public Void visitMethodInvocation(MethodInvocationTree call, Void none) {
        called(trees.getElement(new TreePath(getCurrentPath(), call.getMethodSelect())));
        return super.visitMethodInvocation(call, none);
    }

    private void called(Element e) {
        String owner = e.getEnclosingElement().toString();
        if (owner.startsWith("HeardBackward")) {
            found("own call");
            calls.computeIfAbsent(enclosing(), key -> new LinkedHashSet<>()).add((ExecutableElement) e);
        } else {
            found("library call");
            String name = e.getEnclosingElement().getSimpleName() + "." + e.getSimpleName();
            CHECK.holds("rule 4: " + name + " in " + here(), LIBRARY.contains(name));
        }
    }

    private void recursion() {
        Set<String> found = new TreeSet<>();
        for (ExecutableElement method : calls.keySet()) {
            if (reaches(method, method, new ArrayList<>())) {
                found.add(method.getSimpleName().toString());
                CHECK.holds("rule 8: " + method + " is private and static",
                        method.getModifiers().containsAll(Set.of(Modifier.PRIVATE, Modifier.STATIC)));
                String body = bodies.get(method).getBody().toString();
                CHECK.holds("rule 8: " + method + " refuses what goes deeper", body.contains("length >= MOST_STATEMENTS)"));
                CHECK.holds("rule 8: " + method + " goes one deeper each time", body.contains(", length + 1)"));
            }
        }
        CHECK.holds("rule 8: what calls itself: " + found, found.equals(RECURSIONS));
    }

    private boolean reaches(ExecutableElement from, ExecutableElement to, List<ExecutableElement> been) {
        for (ExecutableElement next : calls.getOrDefault(from, Set.of())) {
            if (next.equals(to)) {
                return true;
            }
            if (!been.contains(next)) {
                been.add(next);
                if (reaches(next, to, been)) {
                    return true;
                }
            }
        }
        return false;
    }

    private void depth() {
        int deepest = 0;
        for (ExecutableElement method : calls.keySet()) {
            if (method != null && method.getModifiers().contains(Modifier.PUBLIC)) {
                int deep = deep(method, new ArrayList<>());
                deepest = Math.max(deepest, deep);
                CHECK.holds("rule 11: " + method + " goes " + deep + " deep", deep <= DEEPEST_CALLS);
            }
        }
        System.out.println("ShapeTests: calls go " + deepest + " deep");
        CHECK.holds("calls are followed", deepest > 3);
    }

    private int deep(ExecutableElement method, List<ExecutableElement> above) {
        int deepest = 0;
        above.add(method);
        for (ExecutableElement next : calls.getOrDefault(method, Set.of())) {
            if (!above.contains(next)) {
                deepest = Math.max(deepest, deep(next, above));
            }
        }
        above.remove(method);
        return deepest + 1;
    }
}

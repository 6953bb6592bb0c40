import com.sun.source.tree.AssertTree;
import com.sun.source.tree.AssignmentTree;
import com.sun.source.tree.BinaryTree;
import com.sun.source.tree.BlockTree;
import com.sun.source.tree.CaseTree;
import com.sun.source.tree.ClassTree;
import com.sun.source.tree.CompilationUnitTree;
import com.sun.source.tree.CompoundAssignmentTree;
import com.sun.source.tree.DoWhileLoopTree;
import com.sun.source.tree.EnhancedForLoopTree;
import com.sun.source.tree.ExpressionStatementTree;
import com.sun.source.tree.ExpressionTree;
import com.sun.source.tree.ForLoopTree;
import com.sun.source.tree.IdentifierTree;
import com.sun.source.tree.ImportTree;
import com.sun.source.tree.InstanceOfTree;
import com.sun.source.tree.LambdaExpressionTree;
import com.sun.source.tree.LiteralTree;
import com.sun.source.tree.MemberReferenceTree;
import com.sun.source.tree.MemberSelectTree;
import com.sun.source.tree.MethodInvocationTree;
import com.sun.source.tree.MethodTree;
import com.sun.source.tree.NewArrayTree;
import com.sun.source.tree.NewClassTree;
import com.sun.source.tree.SwitchExpressionTree;
import com.sun.source.tree.SynchronizedTree;
import com.sun.source.tree.ThrowTree;
import com.sun.source.tree.Tree;
import com.sun.source.tree.TryTree;
import com.sun.source.tree.TypeCastTree;
import com.sun.source.tree.UnaryTree;
import com.sun.source.tree.VariableTree;
import com.sun.source.tree.WhileLoopTree;
import com.sun.source.util.JavacTask;
import com.sun.source.util.TreePath;
import com.sun.source.util.TreePathScanner;
import com.sun.source.util.TreeScanner;
import com.sun.source.util.Trees;
import java.io.IOException;
import java.net.URI;
import java.util.ArrayList;
import java.util.HashSet;
import java.util.LinkedHashMap;
import java.util.List;
import java.util.Map;
import java.util.Set;
import java.util.TreeSet;
import javax.lang.model.element.Element;
import javax.lang.model.element.ElementKind;
import javax.lang.model.element.ExecutableElement;
import javax.lang.model.element.Modifier;
import javax.lang.model.element.NestingKind;
import javax.lang.model.element.TypeElement;
import javax.lang.model.element.VariableElement;
import javax.lang.model.type.ArrayType;
import javax.lang.model.type.TypeKind;
import javax.lang.model.type.TypeMirror;
import javax.tools.JavaCompiler;
import javax.tools.JavaFileObject;
import javax.tools.SimpleJavaFileObject;
import javax.tools.ToolProvider;

/**
 * What in a source of the class is outside LANGUAGE.md, as far as the compiler's tree of it shows: each finding begins
 * with its rule. Where the class needs less than a rule leaves (doubles, lists, casts, try, while), all of it is found.
 */
final class Language extends TreePathScanner<Void, Void> {

    private static final int METHOD_LINES = 60;
    private static final int PARAMETERS = 7;
    private static final int CLASSES = 12;
    private static final int FIELDS = 20;
    private static final int DEEP = 8;

    private static final Set<String> CALLS = Set.of("String.length", "String.charAt", "String.isEmpty", "String.equals",
            "Math.min", "Math.max", "Math.abs", "Math.floorMod", "Math.floorDiv", "Integer.bitCount", "Integer.compare",
            "System.arraycopy", "Arrays.fill", "Object.<init>");
    private static final Set<String> THROWN = Set.of("IllegalStateException", "IllegalArgumentException",
            "IndexOutOfBoundsException", "ArithmeticException", "UnsupportedOperationException", "NoSuchElementException",
            "RuntimeException");
    private static final Set<String> OF_OBJECTS = Set.of("equals", "hashCode", "toString");

    private final String source;
    private final CompilationUnitTree unit;
    private final Trees trees;
    private final List<String> findings = new ArrayList<>();
    private final List<String> face = new ArrayList<>();
    private final Set<String> faceNames = new HashSet<>();
    private final Map<ExecutableElement, Set<ExecutableElement>> calls = new LinkedHashMap<>();
    private final Map<ExecutableElement, Set<String>> thrown = new LinkedHashMap<>();
    private ExecutableElement method;
    private int classes;

    Language(String source) throws IOException {
        this.source = source;
        JavaCompiler compiler = ToolProvider.getSystemJavaCompiler();
        JavaFileObject file = new SimpleJavaFileObject(URI.create("string:///YearRope.java"), JavaFileObject.Kind.SOURCE) {
            @Override
            public CharSequence getCharContent(boolean ignore) {
                return source;
            }
        };
        JavacTask task = (JavacTask) compiler.getTask(null, null, d -> {
            throw new AssertionError(d.toString());
        }, List.of("-proc:none", "-Xlint:none"), null, List.of(file));
        unit = task.parse().iterator().next();
        task.analyze();
        trees = Trees.instance(task);
        faceNames();
        scan(unit, null);
        graph();
    }

    /** What is outside the rules, in the source's order. */
    List<String> findings() {
        return findings;
    }

    /** The public members as the document's code block writes them. */
    List<String> face() {
        return face;
    }

    private void found(int rule, Tree tree, String what) {
        long line = unit.getLineMap().getLineNumber(begin(tree));
        findings.add("rule " + rule + ", line " + line + ": " + what);
    }

    private long begin(Tree tree) {
        return Math.max(0, trees.getSourcePositions().getStartPosition(unit, tree));
    }

    private long end(Tree tree) {
        return trees.getSourcePositions().getEndPosition(unit, tree);
    }

    /** A constructor that the compiler puts in has no end. */
    private String text(Tree tree) {
        return end(tree) < 0 ? tree.toString() : source.substring((int) begin(tree), (int) end(tree));
    }

    private Element element(Tree tree) {
        return trees.getElement(new TreePath(getCurrentPath(), tree));
    }

    private TypeMirror type(Tree tree) {
        return trees.getTypeMirror(new TreePath(getCurrentPath(), tree));
    }

    private boolean isOwn(Element element) {
        return trees.getPath(element) != null;
    }

    // ---- rule 1

    private void faceNames() {
        for (Tree type : unit.getTypeDecls()) {
            for (Tree member : ((ClassTree) type).getMembers()) {
                if (member instanceof MethodTree m && m.getReturnType() != null
                        && m.getModifiers().getFlags().contains(Modifier.PUBLIC)) {
                    faceNames.add(m.getName().toString());
                }
            }
        }
    }

    private void publicMember(Tree member, Set<Modifier> flags) {
        if (member instanceof ClassTree || flags.contains(Modifier.PRIVATE)) {
            return;
        }
        if (!flags.contains(Modifier.PUBLIC)) {
            found(1, member, "neither private nor the document's");
        }
        String line = text(member).replaceAll("\\s+", " ");
        face.add(member instanceof MethodTree ? line.replaceAll(" ?\\{.*", ";") : line);
    }

    // ---- classes, methods, fields

    @Override
    public Void visitCompilationUnit(CompilationUnitTree tree, Void none) {
        if (tree.getPackage() != null || tree.getTypeDecls().size() != 1) {
            found(0, tree, "a package line, or a second class");
        }
        return super.visitCompilationUnit(tree, none);
    }

    @Override
    public Void visitImport(ImportTree tree, Void none) {
        if (!text(tree).equals("import java.util.NoSuchElementException;")) {
            found(4, tree, text(tree));
        }
        return null;
    }

    @Override
    public Void visitClass(ClassTree tree, Void none) {
        TypeElement type = (TypeElement) trees.getElement(getCurrentPath());
        Set<Modifier> flags = type.getModifiers();
        classes++;
        if (type.getNestingKind() == NestingKind.TOP_LEVEL) {
            if (!flags.equals(Set.of(Modifier.PUBLIC, Modifier.FINAL)) || !type.getSimpleName().contentEquals("YearRope")) {
                found(1, tree, "not the document's class");
            }
            for (Tree member : tree.getMembers()) {
                if (member instanceof MethodTree m) {
                    publicMember(m, m.getModifiers().getFlags());
                } else if (member instanceof VariableTree v) {
                    publicMember(v, v.getModifiers().getFlags());
                }
            }
        } else if (type.getNestingKind() != NestingKind.MEMBER || type.getKind() != ElementKind.CLASS
                || !flags.contains(Modifier.STATIC) || !flags.contains(Modifier.FINAL)
                || flags.contains(Modifier.PUBLIC) || flags.contains(Modifier.PROTECTED)) {
            found(2, tree, "not a static final class inside, private or package-visible");
        }
        if (tree.getExtendsClause() != null || !tree.getImplementsClause().isEmpty()) {
            found(2, tree, "extends or implements something");
        }
        fields(tree);
        return super.visitClass(tree, none);
    }

    private void fields(ClassTree tree) {
        int fields = 0;
        for (Tree member : tree.getMembers()) {
            if (member instanceof VariableTree v && !v.getModifiers().getFlags().contains(Modifier.STATIC)) {
                fields++;
            } else if (member instanceof BlockTree block) {
                found(5, block, "an initialiser block");
            }
        }
        if (fields > FIELDS) {
            found(11, tree, fields + " fields");
        }
    }

    @Override
    public Void visitMethod(MethodTree tree, Void none) {
        ExecutableElement outer = method;
        method = (ExecutableElement) trees.getElement(getCurrentPath());
        calls.put(method, new HashSet<>());
        thrown.put(method, new TreeSet<>());
        String name = tree.getName().toString();
        if (tree.getModifiers().getFlags().contains(Modifier.PRIVATE) && faceNames.contains(name)) {
            found(1, tree, "private, with a public one's name: " + name);
        }
        if (OF_OBJECTS.contains(name)) {
            found(6, tree, name);
        }
        if (tree.getReturnType() != null) {
            allowed(tree.getReturnType(), method.getReturnType());
        }
        if (tree.getParameters().size() > PARAMETERS) {
            found(11, tree, "more than seven parameters: " + name);
        }
        if (text(tree).split("\n").length > METHOD_LINES) {
            found(11, tree, "long: " + name);
        }
        if (tree.getModifiers().getFlags().contains(Modifier.SYNCHRONIZED)) {
            found(6, tree, "synchronized");
        }
        super.visitMethod(tree, none);
        method = outer;
        return null;
    }

    @Override
    public Void visitVariable(VariableTree tree, Void none) {
        VariableElement variable = (VariableElement) trees.getElement(getCurrentPath());
        allowed(tree, variable.asType());
        if (variable.getKind() == ElementKind.FIELD && variable.getModifiers().contains(Modifier.STATIC)
                && variable.getConstantValue() == null) {
            found(5, tree, "a static field that is no constant: " + tree.getName());
        }
        return super.visitVariable(tree, none);
    }

    // ---- rule 3: the types

    private void allowed(Tree tree, TypeMirror type) {
        boolean right = type.getKind() == TypeKind.ARRAY ? isOfArray(((ArrayType) type).getComponentType())
                : type.getKind() == TypeKind.VOID || isOfValue(type) || type.toString().equals("java.lang.String");
        if (!right) {
            found(3, tree, "of type " + type);
        }
    }

    private boolean isOfArray(TypeMirror part) {
        if (part.getKind() == TypeKind.ARRAY) {
            TypeMirror number = ((ArrayType) part).getComponentType();
            return number.getKind().isPrimitive() && isOfValue(number);
        }
        return isOfValue(part);
    }

    private boolean isOfValue(TypeMirror type) {
        switch (type.getKind()) {
            case INT, LONG, SHORT, BYTE, CHAR, BOOLEAN:
                return true;
            case DECLARED:
                return type.toString().equals("YearRope") || type.toString().startsWith("YearRope.");
            default:
                return false;
        }
    }

    // ---- rules 4, 6 and 12: what is called, made and thrown

    @Override
    public Void visitMethodInvocation(MethodInvocationTree tree, Void none) {
        ExecutableElement called = (ExecutableElement) element(tree.getMethodSelect());
        String name = called.getEnclosingElement().getSimpleName() + "." + called.getSimpleName();
        if (isOwn(called) && method != null) {
            calls.get(method).add(called);
        } else if (!CALLS.contains(name)) {
            found(4, tree, "calls " + name);
        }
        return super.visitMethodInvocation(tree, none);
    }

    @Override
    public Void visitMemberSelect(MemberSelectTree tree, Void none) {
        field(tree, trees.getElement(getCurrentPath()));
        return super.visitMemberSelect(tree, none);
    }

    @Override
    public Void visitIdentifier(IdentifierTree tree, Void none) {
        field(tree, trees.getElement(getCurrentPath()));
        boolean maker = method != null && method.getKind() == ElementKind.CONSTRUCTOR;
        boolean ofThis = getCurrentPath().getParentPath().getLeaf() instanceof MemberSelectTree;
        if (maker && tree.getName().contentEquals("this") && !ofThis) {
            found(12, tree, "the constructor hands its object out");
        }
        return null;
    }

    private void field(Tree tree, Element element) {
        if (element != null && element.getKind().isField() && !isOwn(element)
                && !element.getSimpleName().contentEquals("length") && !element.getSimpleName().contentEquals("this")
                && !element.getSimpleName().contentEquals("super")) {
            found(4, tree, "takes " + text(tree));
        }
    }

    @Override
    public Void visitNewClass(NewClassTree tree, Void none) {
        Element made = element(tree);
        boolean thrownNow = getCurrentPath().getParentPath().getLeaf() instanceof ThrowTree;
        if (isOwn(made.getEnclosingElement())) {
            making(tree);
            if (method != null && made instanceof ExecutableElement maker) {
                calls.get(method).add(maker);
            }
        } else if (!thrownNow) {
            found(4, tree, "makes " + made.getEnclosingElement().getSimpleName());
        }
        return super.visitNewClass(tree, none);
    }

    @Override
    public Void visitNewArray(NewArrayTree tree, Void none) {
        making(tree);
        return super.visitNewArray(tree, none);
    }

    /** The class makes all that it needs in constructors: there is one room for all calls of a run. */
    private void making(Tree tree) {
        if (method != null && method.getKind() != ElementKind.CONSTRUCTOR) {
            found(12, tree, "made outside a constructor");
        }
    }

    @Override
    public Void visitThrow(ThrowTree tree, Void none) {
        boolean right = false;
        if (tree.getExpression() instanceof NewClassTree made) {
            String name = made.getIdentifier().toString();
            right = THROWN.contains(name) && made.getArguments().size() <= 1
                    && made.getArguments().stream().allMatch(a -> a.getKind() == Tree.Kind.STRING_LITERAL);
            thrown.get(method).add(name);
        }
        if (!right || method.getKind() == ElementKind.CONSTRUCTOR) {
            found(6, tree, text(tree));
        }
        return super.visitThrow(tree, none);
    }

    @Override
    public Void visitTry(TryTree tree, Void none) {
        found(6, tree, "try");
        return super.visitTry(tree, none);
    }

    @Override
    public Void visitSynchronized(SynchronizedTree tree, Void none) {
        found(6, tree, "synchronized");
        return super.visitSynchronized(tree, none);
    }

    @Override
    public Void visitAssert(AssertTree tree, Void none) {
        found(6, tree, "assert");
        return super.visitAssert(tree, none);
    }

    @Override
    public Void visitInstanceOf(InstanceOfTree tree, Void none) {
        found(6, tree, "instanceof");
        return super.visitInstanceOf(tree, none);
    }

    @Override
    public Void visitTypeCast(TypeCastTree tree, Void none) {
        found(6, tree, "a cast");
        return super.visitTypeCast(tree, none);
    }

    @Override
    public Void visitLambdaExpression(LambdaExpressionTree tree, Void none) {
        found(2, tree, "a lambda");
        return super.visitLambdaExpression(tree, none);
    }

    @Override
    public Void visitMemberReference(MemberReferenceTree tree, Void none) {
        found(2, tree, "a method reference");
        return super.visitMemberReference(tree, none);
    }

    @Override
    public Void visitLiteral(LiteralTree tree, Void none) {
        if (tree.getValue() instanceof String s && !s.chars().allMatch(c -> c >= 1 && c <= 127)) {
            found(4, tree, "a sign that is none of 1 to 127");
        }
        if (tree.getKind() == Tree.Kind.NULL_LITERAL) {
            found(7, tree, "null: a reference that may be none");
        }
        return super.visitLiteral(tree, none);
    }

    // ---- rules 6, 7 and 10: operators and switches

    @Override
    public Void visitBinary(BinaryTree tree, Void none) {
        TypeMirror left = type(tree.getLeftOperand());
        boolean same = tree.getKind() == Tree.Kind.EQUAL_TO || tree.getKind() == Tree.Kind.NOT_EQUAL_TO;
        if (same && (isText(left) || isText(type(tree.getRightOperand())))) {
            found(6, tree, "compares " + text(tree));
        }
        if (tree.getKind() == Tree.Kind.PLUS && isText(type(tree))) {
            found(10, tree, "joins " + text(tree));
        }
        if (tree.getKind() == Tree.Kind.DIVIDE || tree.getKind() == Tree.Kind.REMAINDER) {
            divisor(tree, tree.getRightOperand());
        }
        return super.visitBinary(tree, none);
    }

    @Override
    public Void visitCompoundAssignment(CompoundAssignmentTree tree, Void none) {
        if (isText(type(tree.getVariable()))) {
            found(10, tree, "joins " + text(tree));
        }
        if (tree.getKind() == Tree.Kind.DIVIDE_ASSIGNMENT || tree.getKind() == Tree.Kind.REMAINDER_ASSIGNMENT) {
            divisor(tree, tree.getExpression());
        }
        return super.visitCompoundAssignment(tree, none);
    }

    private static boolean isText(TypeMirror type) {
        return type != null && Set.of("java.lang.String", "java.lang.Integer").contains(type.toString());
    }

    /** A number that is written, or a name that its method has looked at ahead: more than 0. */
    private void divisor(Tree tree, ExpressionTree by) {
        boolean written = by instanceof LiteralTree number && !number.getValue().equals(0)
                || element(by) instanceof VariableElement v && v.getConstantValue() instanceof Integer n && n != 0;
        Tree whole = trees.getTree(method);
        String ahead = source.substring((int) begin(whole), (int) begin(by));
        String name = text(by);
        if (!written && !ahead.contains(name + " > 0") && !ahead.contains("needWithin(" + name + ", 1,")) {
            found(7, tree, "divides by " + name);
        }
    }

    @Override
    public Void visitCase(CaseTree tree, Void none) {
        if (tree.getCaseKind() == CaseTree.CaseKind.RULE) {
            found(10, tree, "a case with an arrow");
        }
        return super.visitCase(tree, none);
    }

    @Override
    public Void visitSwitchExpression(SwitchExpressionTree tree, Void none) {
        found(10, tree, "a switch that answers");
        return super.visitSwitchExpression(tree, none);
    }

    // ---- rule 9: loops

    @Override
    public Void visitForLoop(ForLoopTree tree, Void none) {
        String counter = "";
        for (ExpressionStatementTree update : tree.getUpdate()) {
            ExpressionTree step = update.getExpression();
            if (step instanceof UnaryTree unary) {
                counter = unary.getExpression().toString();
            } else if (step instanceof CompoundAssignmentTree compound) {
                counter = compound.getVariable().toString();
            }
        }
        String condition = tree.getCondition() == null ? "" : text(tree.getCondition());
        boolean bounded = !counter.isEmpty() && condition.matches("(?s).*\\b" + counter + " [<>]=? .*");
        if (!bounded || !condition.matches("[^|]*|[^|]*\\([^()]*\\|\\|[^()]*(\\([^()]*\\))?\\).*") || changes(tree, counter)) {
            found(9, tree, "a loop without a counter: " + condition);
        }
        return super.visitForLoop(tree, none);
    }

    private static boolean changes(ForLoopTree loop, String counter) {
        boolean[] changed = new boolean[1];
        new TreeScanner<Void, Void>() {
            @Override
            public Void visitAssignment(AssignmentTree tree, Void none) {
                changed[0] |= tree.getVariable().toString().equals(counter);
                return super.visitAssignment(tree, none);
            }

            @Override
            public Void visitCompoundAssignment(CompoundAssignmentTree tree, Void none) {
                changed[0] |= tree.getVariable().toString().equals(counter);
                return super.visitCompoundAssignment(tree, none);
            }

            @Override
            public Void visitUnary(UnaryTree tree, Void none) {
                boolean steps = tree.toString().contains("++") || tree.toString().contains("--");
                changed[0] |= steps && tree.getExpression().toString().equals(counter);
                return super.visitUnary(tree, none);
            }
        }.scan(loop.getStatement(), null);
        return changed[0];
    }

    @Override
    public Void visitWhileLoop(WhileLoopTree tree, Void none) {
        found(9, tree, "while");
        return super.visitWhileLoop(tree, none);
    }

    @Override
    public Void visitDoWhileLoop(DoWhileLoopTree tree, Void none) {
        found(9, tree, "do");
        return super.visitDoWhileLoop(tree, none);
    }

    @Override
    public Void visitEnhancedForLoop(EnhancedForLoopTree tree, Void none) {
        if (type(tree.getExpression()).getKind() != TypeKind.ARRAY) {
            found(9, tree, "a loop over what is no array");
        }
        return super.visitEnhancedForLoop(tree, none);
    }

    // ---- rules 6, 8 and 11: what calls what

    private void graph() {
        if (classes > CLASSES) {
            found(11, unit, classes + " classes");
        }
        for (ExecutableElement one : calls.keySet()) {
            Tree tree = trees.getTree(one);
            if (reached(one).contains(one)) {
                boolean guarded = one.getModifiers().contains(Modifier.PRIVATE)
                        && one.getParameters().stream().anyMatch(p -> p.getSimpleName().contentEquals("depth"));
                if (!guarded) {
                    found(8, tree, "recursion without a depth: " + one.getSimpleName());
                }
            }
            if (one.getModifiers().contains(Modifier.PUBLIC)) {
                throwsWhatItTells(one, tree);
                List<String> chain = deepest(one, new HashSet<>());
                if (chain.size() > DEEP) {
                    found(11, tree, "deep: " + chain);
                }
            }
        }
    }

    private void throwsWhatItTells(ExecutableElement one, Tree tree) {
        Set<String> told = new TreeSet<>();
        one.getThrownTypes().forEach(t -> told.add(t.toString().replaceAll(".*\\.", "")));
        Set<String> found = new TreeSet<>(thrown.get(one));
        reached(one).forEach(r -> found.addAll(thrown.getOrDefault(r, Set.of())));
        if (!told.equals(found)) {
            found(6, tree, one.getSimpleName() + " tells " + told + " and throws " + found);
        }
    }

    private Set<ExecutableElement> reached(ExecutableElement from) {
        Set<ExecutableElement> reached = new HashSet<>();
        List<ExecutableElement> open = new ArrayList<>(calls.getOrDefault(from, Set.of()));
        for (int i = 0; i < open.size(); i++) {
            if (reached.add(open.get(i))) {
                open.addAll(calls.getOrDefault(open.get(i), Set.of()));
            }
        }
        return reached;
    }

    /** The longest chain of calls in which no method comes twice. */
    private List<String> deepest(ExecutableElement from, Set<ExecutableElement> open) {
        List<String> most = List.of();
        open.add(from);
        for (ExecutableElement next : calls.getOrDefault(from, Set.of())) {
            if (!open.contains(next)) {
                List<String> chain = deepest(next, open);
                most = chain.size() > most.size() ? chain : most;
            }
        }
        open.remove(from);
        List<String> whole = new ArrayList<>(List.of(from.getSimpleName().toString()));
        whole.addAll(most);
        return whole;
    }
}

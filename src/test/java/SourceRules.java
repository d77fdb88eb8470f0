import com.sun.source.tree.AnnotationTree;
import com.sun.source.tree.AssertTree;
import com.sun.source.tree.BinaryTree;
import com.sun.source.tree.BlockTree;
import com.sun.source.tree.ClassTree;
import com.sun.source.tree.CompilationUnitTree;
import com.sun.source.tree.DoWhileLoopTree;
import com.sun.source.tree.EnhancedForLoopTree;
import com.sun.source.tree.ExpressionStatementTree;
import com.sun.source.tree.ExpressionTree;
import com.sun.source.tree.ForLoopTree;
import com.sun.source.tree.IdentifierTree;
import com.sun.source.tree.ImportTree;
import com.sun.source.tree.LambdaExpressionTree;
import com.sun.source.tree.MemberReferenceTree;
import com.sun.source.tree.MethodInvocationTree;
import com.sun.source.tree.MethodTree;
import com.sun.source.tree.NewArrayTree;
import com.sun.source.tree.NewClassTree;
import com.sun.source.tree.SynchronizedTree;
import com.sun.source.tree.ThrowTree;
import com.sun.source.tree.Tree;
import com.sun.source.tree.Tree.Kind;
import com.sun.source.tree.TryTree;
import com.sun.source.tree.UnaryTree;
import com.sun.source.tree.VariableTree;
import com.sun.source.tree.WhileLoopTree;
import com.sun.source.util.JavacTask;
import com.sun.source.util.TreePath;
import com.sun.source.util.TreePathScanner;
import com.sun.source.util.TreeScanner;
import com.sun.source.util.Trees;
import java.io.File;
import java.util.ArrayList;
import java.util.List;
import java.util.Map;
import java.util.Set;
import java.util.TreeMap;
import java.util.TreeSet;
import javax.lang.model.element.Element;
import javax.lang.model.element.ElementKind;
import javax.lang.model.element.Modifier;
import javax.lang.model.type.TypeKind;
import javax.lang.model.type.TypeMirror;
import javax.tools.JavaCompiler;
import javax.tools.StandardJavaFileManager;
import javax.tools.ToolProvider;

/**
 * What of ../shared/LANGUAGE.md the compiler's own tree of a source shows. It is stricter than the rules: what they
 * allow but the class has no need of (throw and catch, lists, while) is reported too, to be let in when it is needed.
 */
final class SourceRules extends TreePathScanner<Void, Void> {
    private static final Set<String> LIBRARY = Set.of("java.lang.Math.abs", "java.lang.Math.max", "java.lang.Math.min",
        "java.lang.System.arraycopy", "java.lang.String.length", "java.lang.String.charAt");
    private static final Set<Kind> ON_DOUBLES = Set.of(Kind.PLUS, Kind.MINUS, Kind.MULTIPLY, Kind.DIVIDE, Kind.LESS_THAN,
        Kind.LESS_THAN_EQUAL, Kind.GREATER_THAN, Kind.GREATER_THAN_EQUAL, Kind.EQUAL_TO, Kind.NOT_EQUAL_TO);
    private static final int LINES = 60, PARAMETERS = 7, CLASSES = 12, FIELDS = 20, DEPTH = 8;

    private final List<String> broken = new ArrayList<>();
    private final Map<String, Set<String>> calls = new TreeMap<>();
    private final Trees trees;
    private CompilationUnitTree unit;
    private String outermost = "";
    private int classes = 0;

    private SourceRules(Trees trees) {
        this.trees = trees;
    }

    /** The rules that a source breaks, each with its line. */
    static List<String> brokenIn(File source) throws Exception {
        JavaCompiler compiler = ToolProvider.getSystemJavaCompiler();
        try (StandardJavaFileManager files = compiler.getStandardFileManager(null, null, null)) {
            JavacTask task = (JavacTask) compiler.getTask(null, files, null, List.of("-proc:none"), null, files.getJavaFileObjects(source));
            SourceRules rules = new SourceRules(Trees.instance(task));
            Iterable<? extends CompilationUnitTree> units = task.parse();
            task.analyze();
            for (CompilationUnitTree one : units) {
                rules.unit = one;
                rules.outermost = source.getName().replace(".java", "");
                rules.scan(one, null);
            }
            rules.lookAtCalls();
            return rules.broken;
        }
    }

    private void rule(int number, Tree at, String what) {
        long line = unit.getLineMap().getLineNumber(trees.getSourcePositions().getStartPosition(unit, at));
        broken.add("rule " + number + ", line " + line + ": " + what);
    }

    private void rule(int number, Tree at, String what, boolean holds) {
        if (!holds) {
            rule(number, at, what);
        }
    }

    private TypeMirror typeOf(Tree tree) {
        return trees.getTypeMirror(new TreePath(getCurrentPath(), tree));
    }

    private boolean isOwn(String type) {
        return type.equals(outermost) || type.startsWith(outermost + ".");
    }

    @Override
    public Void visitCompilationUnit(CompilationUnitTree tree, Void none) {
        rule(1, tree, "a package", tree.getPackageName() == null);
        rule(1, tree, "one class in the file", tree.getTypeDecls().size() == 1);
        return super.visitCompilationUnit(tree, none);
    }

    @Override
    public Void visitImport(ImportTree tree, Void none) {
        rule(4, tree, "an import");
        return super.visitImport(tree, none);
    }

    @Override
    public Void visitAnnotation(AnnotationTree tree, Void none) {
        rule(4, tree, "an annotation");
        return super.visitAnnotation(tree, none);
    }

    @Override
    public Void visitClass(ClassTree tree, Void none) {
        classes++;
        rule(11, tree, "more than twelve classes", classes <= CLASSES);
        Tree above = getCurrentPath().getParentPath().getLeaf();
        rule(2, tree, "a local or anonymous class", above instanceof ClassTree || above instanceof CompilationUnitTree);
        if (above instanceof ClassTree) {
            Set<Modifier> modifiers = tree.getModifiers().getFlags();
            rule(1, tree, "a class inside that is open", !modifiers.contains(Modifier.PUBLIC) && !modifiers.contains(Modifier.PROTECTED));
            rule(2, tree, "a class inside that is not static", modifiers.contains(Modifier.STATIC));
        }
        int fields = 0;
        for (Tree member : tree.getMembers()) {
            if (member instanceof BlockTree) {
                rule(5, member, "an initialiser block");
            }
            if (member instanceof VariableTree field && !field.getModifiers().getFlags().contains(Modifier.STATIC)) {
                fields++;
            }
        }
        rule(11, tree, "more than twenty fields", fields <= FIELDS);
        return super.visitClass(tree, none);
    }

    @Override
    public Void visitVariable(VariableTree tree, Void none) {
        TypeMirror type = trees.getElement(getCurrentPath()).asType();
        rule(3, tree, "the type " + type, isType(type));
        Set<Modifier> modifiers = tree.getModifiers().getFlags();
        if (modifiers.contains(Modifier.STATIC)) {
            boolean isPlain = type.toString().matches("int|long|boolean|char|java\\.lang\\.String");
            rule(5, tree, "a static field that is no constant", modifiers.contains(Modifier.FINAL) && isPlain);
        }
        return super.visitVariable(tree, none);
    }

    private boolean isType(TypeMirror type) {
        String inner = type.toString().replaceFirst("\\[\\]$", "");
        boolean isNumber = inner.matches("int|long|short|byte|char|boolean|double|float");
        return isNumber || isOwn(inner) || type.toString().equals("java.lang.String");
    }

    @Override
    public Void visitMethod(MethodTree tree, Void none) {
        TypeMirror answer = tree.getReturnType() == null ? null : typeOf(tree.getReturnType());
        rule(3, tree, "it answers " + answer, answer == null || answer.getKind() == TypeKind.VOID || isType(answer));
        rule(11, tree, "more than seven parameters", tree.getParameters().size() <= PARAMETERS);
        long first = trees.getSourcePositions().getStartPosition(unit, tree);
        long last = trees.getSourcePositions().getEndPosition(unit, tree);
        // The compiler's own constructors have no end in the source.
        if (last > first) {
            long lines = unit.getLineMap().getLineNumber(last) - unit.getLineMap().getLineNumber(first) + 1;
            rule(11, tree, "a method of " + lines + " lines", lines <= LINES);
        }
        calls.putIfAbsent(nameOf(trees.getElement(getCurrentPath())), new TreeSet<>());
        return super.visitMethod(tree, none);
    }

    private static String nameOf(Element method) {
        return method.getEnclosingElement() + "." + method;
    }

    /** The method that holds the place; a field's initialiser is run by the constructor. */
    private String here() {
        for (TreePath path = getCurrentPath(); path != null; path = path.getParentPath()) {
            if (path.getLeaf() instanceof MethodTree) {
                return nameOf(trees.getElement(path));
            }
            if (path.getLeaf() instanceof ClassTree) {
                String type = trees.getElement(path).toString();
                return type + "." + type.substring(type.lastIndexOf('.') + 1) + "()";
            }
        }
        return "";
    }

    @Override
    public Void visitMethodInvocation(MethodInvocationTree tree, Void none) {
        Element method = trees.getElement(getCurrentPath());
        String type = method.getEnclosingElement().toString();
        boolean isParents = method.getKind() == ElementKind.CONSTRUCTOR;
        if (isOwn(type)) {
            calls.computeIfAbsent(here(), key -> new TreeSet<>()).add(nameOf(method));
        } else {
            rule(4, tree, type + "." + method, isParents || LIBRARY.contains(type + "." + method.getSimpleName()));
        }
        return super.visitMethodInvocation(tree, none);
    }

    @Override
    public Void visitNewClass(NewClassTree tree, Void none) {
        Element made = trees.getElement(getCurrentPath());
        rule(4, tree, "new " + made.getEnclosingElement(), isOwn(made.getEnclosingElement().toString()));
        calls.computeIfAbsent(here(), key -> new TreeSet<>()).add(nameOf(made));
        rule(12, tree, "an object that " + here() + " makes", isMaker(here()));
        return super.visitNewClass(tree, none);
    }

    @Override
    public Void visitNewArray(NewArrayTree tree, Void none) {
        rule(12, tree, "an array that " + here() + " makes", isMaker(here()));
        return super.visitNewArray(tree, none);
    }

    /** Constructors make all rows; image() makes its book, once. */
    private boolean isMaker(String method) {
        String name = method.substring(0, method.indexOf('('));
        String[] parts = name.split("\\.");
        boolean isConstructor = parts.length > 1 && parts[parts.length - 1].equals(parts[parts.length - 2]);
        return isConstructor || name.equals(outermost + ".image");
    }

    @Override
    public Void visitBinary(BinaryTree tree, Void none) {
        TypeMirror left = typeOf(tree.getLeftOperand());
        TypeMirror right = typeOf(tree.getRightOperand());
        if (isText(left) || isText(right)) {
            rule(tree.getKind() == Kind.PLUS ? 10 : 6, tree, tree.getKind() + " on texts");
        }
        if (isReal(left) || isReal(right)) {
            rule(3, tree, tree.getKind() + " on doubles", ON_DOUBLES.contains(tree.getKind()));
        }
        return super.visitBinary(tree, none);
    }

    private static boolean isText(TypeMirror type) {
        return type.toString().equals("java.lang.String");
    }

    private static boolean isReal(TypeMirror type) {
        return type.getKind() == TypeKind.DOUBLE || type.getKind() == TypeKind.FLOAT;
    }

    /** A counter that only its own loop's head changes, by one, and that the head holds against a bound. */
    @Override
    public Void visitForLoop(ForLoopTree tree, Void none) {
        boolean isCounted = tree.getUpdate().size() == 1 && tree.getCondition() != null;
        if (isCounted) {
            ExpressionStatementTree step = tree.getUpdate().get(0);
            boolean isUp = step.getExpression() instanceof UnaryTree up && up.getKind() == Kind.POSTFIX_INCREMENT
                && up.getExpression() instanceof IdentifierTree;
            String counter = isUp ? ((UnaryTree) step.getExpression()).getExpression().toString() : "";
            isCounted = isUp && isBounded(tree.getCondition(), counter) && !isChanged(tree.getStatement(), counter);
        }
        rule(9, tree, "a loop whose end can't be seen", isCounted);
        return super.visitForLoop(tree, none);
    }

    private static boolean isBounded(ExpressionTree condition, String counter) {
        if (condition instanceof BinaryTree both && both.getKind() == Kind.CONDITIONAL_AND) {
            return isBounded(both.getLeftOperand(), counter) || isBounded(both.getRightOperand(), counter);
        }
        return condition instanceof BinaryTree one && one.getLeftOperand().toString().equals(counter)
            && (one.getKind() == Kind.LESS_THAN || one.getKind() == Kind.LESS_THAN_EQUAL);
    }

    private static boolean isChanged(Tree body, String counter) {
        boolean[] found = {false};
        new TreeScanner<Void, Void>() {
            @Override
            public Void scan(Tree tree, Void none) {
                String text = tree == null ? "" : tree.toString();
                boolean isAssignment = tree instanceof com.sun.source.tree.AssignmentTree a && a.getVariable().toString().equals(counter)
                    || tree instanceof com.sun.source.tree.CompoundAssignmentTree c && c.getVariable().toString().equals(counter);
                boolean isStep = tree instanceof UnaryTree && (text.contains("++") || text.contains("--"))
                    && ((UnaryTree) tree).getExpression().toString().equals(counter);
                found[0] |= isAssignment || isStep;
                return super.scan(tree, none);
            }
        }.scan(body, null);
        return found[0];
    }

    @Override
    public Void visitWhileLoop(WhileLoopTree tree, Void none) {
        rule(9, tree, "while");
        return super.visitWhileLoop(tree, none);
    }

    @Override
    public Void visitDoWhileLoop(DoWhileLoopTree tree, Void none) {
        rule(9, tree, "do");
        return super.visitDoWhileLoop(tree, none);
    }

    @Override
    public Void visitEnhancedForLoop(EnhancedForLoopTree tree, Void none) {
        rule(9, tree, "for over something", typeOf(tree.getExpression()).getKind() == TypeKind.ARRAY);
        return super.visitEnhancedForLoop(tree, none);
    }

    @Override
    public Void visitLambdaExpression(LambdaExpressionTree tree, Void none) {
        rule(2, tree, "a lambda");
        return super.visitLambdaExpression(tree, none);
    }

    @Override
    public Void visitMemberReference(MemberReferenceTree tree, Void none) {
        rule(2, tree, "a method reference");
        return super.visitMemberReference(tree, none);
    }

    @Override
    public Void visitThrow(ThrowTree tree, Void none) {
        rule(6, tree, "throw: the document wants no exception");
        return super.visitThrow(tree, none);
    }

    @Override
    public Void visitTry(TryTree tree, Void none) {
        rule(6, tree, "try: nothing in the class throws");
        return super.visitTry(tree, none);
    }

    @Override
    public Void visitAssert(AssertTree tree, Void none) {
        rule(6, tree, "assert");
        return super.visitAssert(tree, none);
    }

    @Override
    public Void visitSynchronized(SynchronizedTree tree, Void none) {
        rule(6, tree, "synchronized");
        return super.visitSynchronized(tree, none);
    }

    private void lookAtCalls() {
        for (String method : calls.keySet()) {
            int depth = depth(method, new ArrayList<>());
            if (depth > DEPTH) {
                broken.add(depth > calls.size() ? "rule 8: " + method + " calls itself" : "rule 11: " + method + " goes " + depth + " deep");
            }
        }
    }

    /** How many calls stand open at once, more than there are methods if one calls itself. */
    private int depth(String method, List<String> open) {
        if (open.contains(method)) {
            return calls.size() + 1;
        }
        open.add(method);
        int deepest = 0;
        for (String called : calls.getOrDefault(method, Set.of())) {
            deepest = Math.max(deepest, depth(called, open));
        }
        open.remove(open.size() - 1);
        return deepest + 1;
    }
}

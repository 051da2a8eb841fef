import com.sun.source.tree.AssertTree;
import com.sun.source.tree.BinaryTree;
import com.sun.source.tree.BlockTree;
import com.sun.source.tree.ClassTree;
import com.sun.source.tree.CompilationUnitTree;
import com.sun.source.tree.CompoundAssignmentTree;
import com.sun.source.tree.DoWhileLoopTree;
import com.sun.source.tree.ForLoopTree;
import com.sun.source.tree.ImportTree;
import com.sun.source.tree.LambdaExpressionTree;
import com.sun.source.tree.LiteralTree;
import com.sun.source.tree.MemberReferenceTree;
import com.sun.source.tree.MethodInvocationTree;
import com.sun.source.tree.MethodTree;
import com.sun.source.tree.NewArrayTree;
import com.sun.source.tree.NewClassTree;
import com.sun.source.tree.ParenthesizedTree;
import com.sun.source.tree.SynchronizedTree;
import com.sun.source.tree.ThrowTree;
import com.sun.source.tree.Tree;
import com.sun.source.tree.TryTree;
import com.sun.source.tree.TypeCastTree;
import com.sun.source.tree.VariableTree;
import com.sun.source.tree.WhileLoopTree;
import com.sun.source.util.JavacTask;
import com.sun.source.util.SourcePositions;
import com.sun.source.util.TreePath;
import com.sun.source.util.TreePathScanner;
import com.sun.source.util.Trees;
import java.nio.file.Path;
import java.util.ArrayDeque;
import java.util.Deque;
import java.util.HashMap;
import java.util.LinkedHashMap;
import java.util.List;
import java.util.Map;
import java.util.Set;
import java.util.TreeSet;
import javax.lang.model.element.Element;
import javax.lang.model.element.ElementKind;
import javax.lang.model.element.Modifier;
import javax.lang.model.element.TypeElement;
import javax.lang.model.type.TypeMirror;
import javax.tools.JavaCompiler;
import javax.tools.StandardJavaFileManager;
import javax.tools.ToolProvider;

/** What of LANGUAGE.md can be seen from the source, as the compiler reads it. Runs in the project's folder. */
public final class RulesTest extends TreePathScanner<Void, Void> {
    private static final Path SOURCE = Path.of("src/main/java/TinNation.java");
    /** Of what rule 4 leaves, what the program has use for; whoever uses more looks it up there first. */
    private static final Set<String> LIBRARY = Set.of("String.length", "String.charAt", "String.isEmpty", "String.equals",
            "String.indexOf", "String.substring", "String.toCharArray", "Math.max", "Math.min", "Math.abs",
            "Integer.bitCount", "Integer.compare", "Long.compare", "System.arraycopy", "Object.<init>");
    private static final Set<String> TYPES = Set.of("int", "long", "short", "byte", "char", "boolean", "java.lang.String",
            "int[]", "long[]", "char[]", "byte[]", "boolean[]", "int[][]", "long[][]");
    private static final Set<String> CONSTANTS = Set.of("int", "long", "boolean", "char", "java.lang.String", "int[]",
            "long[]", "char[]", "byte[]");
    private static final Set<String> THROWN = Set.of("IllegalStateException", "IllegalArgumentException",
            "IndexOutOfBoundsException", "ArithmeticException", "UnsupportedOperationException", "NoSuchElementException",
            "RuntimeException");
    /** A level of brackets is a level of recursion, and eight may be open. */
    private static final int LEVELS = 9;

    private final CompilationUnitTree unit;
    private final Trees trees;
    private final Map<Element, Set<Element>> calls = new LinkedHashMap<>();
    private final Map<Element, Integer> depths = new HashMap<>();
    private final Deque<Element> methods = new ArrayDeque<>();
    private int classes;

    private RulesTest(CompilationUnitTree unit, Trees trees) {
        this.unit = unit;
        this.trees = trees;
    }

    public static void main(String[] args) throws Exception {
        JavaCompiler compiler = ToolProvider.getSystemJavaCompiler();
        try (StandardJavaFileManager files = compiler.getStandardFileManager(null, null, null)) {
            JavacTask task = (JavacTask) compiler.getTask(null, files, null, List.of("-proc:none"), null, files.getJavaFileObjects(SOURCE));
            CompilationUnitTree unit = task.parse().iterator().next();
            task.analyze();
            RulesTest test = new RulesTest(unit, Trees.instance(task));
            test.scan(unit, null);
            Check.due("rule 11: some twelve classes at most: " + test.classes, true, test.classes <= 12);
            test.depth();
        }
        Check.end("RulesTest");
    }

    private void holds(int rule, String what, boolean isSo) {
        long line = unit.getLineMap().getLineNumber(trees.getSourcePositions().getStartPosition(unit, getCurrentPath().getLeaf()));
        Check.due("rule " + rule + ", line " + line + ": " + what, true, isSo);
    }

    private void never(int rule, String what) {
        holds(rule, "no " + what, false);
    }

    private Element here() {
        return trees.getElement(getCurrentPath());
    }

    private TypeMirror typeOf(Tree tree) {
        return trees.getTypeMirror(new TreePath(getCurrentPath(), tree));
    }

    private static boolean isOwn(Element element) {
        Element outer = element;
        while (outer != null && outer.getEnclosingElement() != null && outer.getEnclosingElement().getKind() != ElementKind.PACKAGE) {
            outer = outer.getEnclosingElement();
        }
        return outer != null && outer.getSimpleName().contentEquals("TinNation");
    }

    // ---- rules 1 to 6: what may stand there

    @Override
    public Void visitImport(ImportTree tree, Void p) {
        holds(4, "import " + tree.getQualifiedIdentifier(), tree.getQualifiedIdentifier().toString().equals("java.util.NoSuchElementException"));
        return super.visitImport(tree, p);
    }

    @Override
    public Void visitClass(ClassTree tree, Void p) {
        classes++;
        Element type = here();
        boolean isOuter = type.getEnclosingElement().getKind() == ElementKind.PACKAGE;
        holds(1, "one public class, all others private or package-visible", isOuter == type.getModifiers().contains(Modifier.PUBLIC));
        holds(1, "no package", !isOuter || type.getEnclosingElement().getSimpleName().length() == 0);
        holds(2, "a static class inside the outer one", isOuter || type.getModifiers().contains(Modifier.STATIC));
        int fields = 0;
        for (Tree member : tree.getMembers()) {
            if (member instanceof VariableTree field && !field.getModifiers().getFlags().contains(Modifier.STATIC)) {
                fields++;
            }
            holds(5, "no initialiser block", !(member instanceof BlockTree));
        }
        holds(11, "some twenty fields at most: " + fields, fields <= 20);
        return super.visitClass(tree, p);
    }

    @Override
    public Void visitVariable(VariableTree tree, Void p) {
        Element variable = here();
        String type = variable.asType().toString();
        holds(3, "type " + type, TYPES.contains(type) || type.startsWith("TinNation."));
        if (variable.getModifiers().contains(Modifier.STATIC)) {
            holds(5, "a static field is final", variable.getModifiers().contains(Modifier.FINAL));
            holds(5, "a static field's type " + type, CONSTANTS.contains(type));
        }
        return super.visitVariable(tree, p);
    }

    @Override
    public Void visitLiteral(LiteralTree tree, Void p) {
        if (tree.getValue() instanceof String text) {
            holds(4, "signs 1 to 127", text.chars().allMatch(sign -> sign >= 1 && sign <= 127));
        }
        holds(3, "no double, no float", !(tree.getValue() instanceof Double) && !(tree.getValue() instanceof Float));
        return super.visitLiteral(tree, p);
    }

    @Override
    public Void visitBinary(BinaryTree tree, Void p) {
        String left = typeOf(tree.getLeftOperand()).toString();
        String right = typeOf(tree.getRightOperand()).toString();
        boolean isText = left.equals("java.lang.String") || right.equals("java.lang.String");
        holds(10, "no text joined or compared by a sign", !isText);
        if (tree.getKind() == Tree.Kind.DIVIDE || tree.getKind() == Tree.Kind.REMAINDER) {
            divisor(tree.getRightOperand());
        }
        return super.visitBinary(tree, p);
    }

    @Override
    public Void visitCompoundAssignment(CompoundAssignmentTree tree, Void p) {
        holds(7, "no division by /= or %=", tree.getKind() != Tree.Kind.DIVIDE_ASSIGNMENT && tree.getKind() != Tree.Kind.REMAINDER_ASSIGNMENT);
        return super.visitCompoundAssignment(tree, p);
    }

    /** A number that is written out and isn't 0, or one that the method looks at beforehand. */
    private void divisor(Tree divisor) {
        String words = divisor.toString();
        if (divisor instanceof LiteralTree number) {
            holds(7, "divisor " + words, ((Number) number.getValue()).longValue() != 0);
            return;
        }
        if (words.equals("HUNDRED")) {
            return;
        }
        Tree method = trees.getTree(methods.peek());
        String body = ((MethodTree) method).getBody().toString();
        String name = divisor instanceof ParenthesizedTree ? words.replaceAll("^\\((\\w+).*", "$1") : words;
        holds(7, "divisor " + words + " is looked at", body.matches("(?s).*\\b" + name + " (==|!=|<=) 0.*"));
    }

    @Override
    public Void visitThrow(ThrowTree tree, Void p) {
        boolean isNew = tree.getExpression() instanceof NewClassTree;
        holds(6, "throw new", isNew);
        holds(6, "no throw in a constructor", methods.peek().getKind() != ElementKind.CONSTRUCTOR);
        if (isNew) {
            NewClassTree made = (NewClassTree) tree.getExpression();
            holds(6, "throws " + made.getIdentifier(), THROWN.contains(made.getIdentifier().toString()));
            holds(6, "with a written text at most", made.getArguments().stream().allMatch(text -> text instanceof LiteralTree));
        }
        return super.visitThrow(tree, p);
    }

    @Override
    public Void visitTry(TryTree tree, Void p) {
        // The program has no call that throws but tin(), so it has nothing to catch.
        never(6, "try");
        return super.visitTry(tree, p);
    }

    @Override
    public Void visitLambdaExpression(LambdaExpressionTree tree, Void p) {
        never(2, "lambda");
        return super.visitLambdaExpression(tree, p);
    }

    @Override
    public Void visitMemberReference(MemberReferenceTree tree, Void p) {
        never(2, "method reference");
        return super.visitMemberReference(tree, p);
    }

    @Override
    public Void visitSynchronized(SynchronizedTree tree, Void p) {
        never(6, "synchronized");
        return super.visitSynchronized(tree, p);
    }

    @Override
    public Void visitAssert(AssertTree tree, Void p) {
        never(6, "assert");
        return super.visitAssert(tree, p);
    }

    @Override
    public Void visitTypeCast(TypeCastTree tree, Void p) {
        holds(6, "casts of numbers alone", typeOf(tree.getType()).getKind().isPrimitive());
        return super.visitTypeCast(tree, p);
    }

    // ---- rule 9: loops

    @Override
    public Void visitForLoop(ForLoopTree tree, Void p) {
        holds(9, "a loop with an end", tree.getCondition() != null && !tree.getCondition().toString().equals("true"));
        return super.visitForLoop(tree, p);
    }

    @Override
    public Void visitWhileLoop(WhileLoopTree tree, Void p) {
        holds(9, "a loop with an end", !tree.getCondition().toString().equals("(true)"));
        return super.visitWhileLoop(tree, p);
    }

    @Override
    public Void visitDoWhileLoop(DoWhileLoopTree tree, Void p) {
        holds(9, "a loop with an end", !tree.getCondition().toString().equals("(true)"));
        return super.visitDoWhileLoop(tree, p);
    }

    // ---- rules 11 and 12: methods, what they make, how deep they go

    @Override
    public Void visitMethod(MethodTree tree, Void p) {
        Element method = here();
        SourcePositions positions = trees.getSourcePositions();
        long lines = unit.getLineMap().getLineNumber(positions.getEndPosition(unit, tree))
                - unit.getLineMap().getLineNumber(Math.max(0, positions.getStartPosition(unit, tree))) + 1;
        holds(11, "some sixty lines at most: " + lines, lines <= 60);
        holds(11, "seven parameters at most", tree.getParameters().size() <= 7);
        calls.computeIfAbsent(method, key -> new java.util.LinkedHashSet<>());
        methods.push(method);
        super.visitMethod(tree, p);
        methods.pop();
        return null;
    }

    private void called(Element callee) {
        if (isOwn(callee)) {
            if (!methods.isEmpty()) {
                calls.get(methods.peek()).add(callee);
            }
        } else {
            String name = callee.getEnclosingElement().getSimpleName() + "." + callee.getSimpleName();
            holds(4, "library " + name, LIBRARY.contains(name));
        }
    }

    @Override
    public Void visitMethodInvocation(MethodInvocationTree tree, Void p) {
        called(here());
        return super.visitMethodInvocation(tree, p);
    }

    private boolean isWhileMaking() {
        return methods.isEmpty() || methods.peek().getKind() == ElementKind.CONSTRUCTOR;
    }

    @Override
    public Void visitNewClass(NewClassTree tree, Void p) {
        boolean isThrown = getCurrentPath().getParentPath().getLeaf() instanceof ThrowTree;
        if (!isThrown) {
            holds(12, "objects are made with the object alone", isWhileMaking());
            called(here());
        }
        holds(2, "no anonymous class", tree.getClassBody() == null);
        return super.visitNewClass(tree, p);
    }

    @Override
    public Void visitNewArray(NewArrayTree tree, Void p) {
        holds(12, "arrays are made with the object alone", isWhileMaking());
        return super.visitNewArray(tree, p);
    }

    private void depth() {
        Set<String> recursive = new TreeSet<>();
        for (Element method : calls.keySet()) {
            if (reaches(method, method)) {
                recursive.add(((TypeElement) method.getEnclosingElement()).getSimpleName() + "." + method.getSimpleName());
            }
        }
        for (Element method : calls.keySet()) {
            Check.due("rule 11: calls go eight deep at most from " + method, true, deep(method) <= 8);
        }
        Check.due("rule 8: only E is read by recursion: " + recursive, true,
                recursive.stream().allMatch(name -> name.startsWith("Parser.")));
        Check.due("rule 8: calls that stand open at once", true, recursive.size() * LEVELS + 8 < 300);
    }

    private boolean reaches(Element from, Element to) {
        Set<Element> seen = new java.util.HashSet<>();
        Deque<Element> next = new ArrayDeque<>(calls.getOrDefault(from, Set.of()));
        while (!next.isEmpty()) {
            Element at = next.pop();
            if (at.equals(to)) {
                return true;
            }
            if (seen.add(at)) {
                next.addAll(calls.getOrDefault(at, Set.of()));
            }
        }
        return false;
    }

    /** How many calls stand open at once, all that call one another counted as one. */
    private int deep(Element method) {
        Integer known = depths.get(method);
        if (known != null) {
            return known;
        }
        int most = 0;
        Set<Element> round = new java.util.HashSet<>(Set.of(method));
        for (Element other : calls.keySet()) {
            if (reaches(method, other) && reaches(other, method)) {
                round.add(other);
            }
        }
        for (Element one : round) {
            for (Element callee : calls.getOrDefault(one, Set.of())) {
                if (!round.contains(callee)) {
                    most = Math.max(most, deep(callee));
                }
            }
        }
        depths.put(method, most + 1);
        return most + 1;
    }
}

import com.sun.source.tree.AssertTree;
import com.sun.source.tree.BinaryTree;
import com.sun.source.tree.BlockTree;
import com.sun.source.tree.CatchTree;
import com.sun.source.tree.ClassTree;
import com.sun.source.tree.CompilationUnitTree;
import com.sun.source.tree.CompoundAssignmentTree;
import com.sun.source.tree.ExpressionTree;
import com.sun.source.tree.ImportTree;
import com.sun.source.tree.LambdaExpressionTree;
import com.sun.source.tree.LiteralTree;
import com.sun.source.tree.MemberReferenceTree;
import com.sun.source.tree.MethodInvocationTree;
import com.sun.source.tree.MethodTree;
import com.sun.source.tree.NewArrayTree;
import com.sun.source.tree.NewClassTree;
import com.sun.source.tree.SynchronizedTree;
import com.sun.source.tree.ThrowTree;
import com.sun.source.tree.Tree;
import com.sun.source.tree.TryTree;
import com.sun.source.tree.VariableTree;
import com.sun.source.util.JavacTask;
import com.sun.source.util.TreePathScanner;
import com.sun.source.util.Trees;
import java.nio.file.Files;
import java.nio.file.Path;
import java.util.ArrayList;
import java.util.HashSet;
import java.util.LinkedHashMap;
import java.util.List;
import java.util.Map;
import java.util.Set;
import java.util.TreeSet;
import javax.lang.model.element.Element;
import javax.lang.model.element.ExecutableElement;
import javax.lang.model.element.Modifier;
import javax.lang.model.element.TypeElement;
import javax.lang.model.element.VariableElement;
import javax.lang.model.type.TypeKind;
import javax.lang.model.type.TypeMirror;
import javax.tools.ToolProvider;

/** The rules of LANGUAGE.md that can be seen in the source, by the compiler's own trees. */
public final class LanguageTest extends TreePathScanner<Void, Void> {
    private static final Path SOURCE = Path.of("src/main/java/SaturdayKeep.java");
    private static final Set<String> IMPORTS = Set.of("java.util.NoSuchElementException", "java.util.ArrayList",
            "java.util.List", "java.util.Arrays", "java.util.Iterator");
    private static final Set<String> EXCEPTIONS = Set.of("IllegalStateException", "IllegalArgumentException",
            "IndexOutOfBoundsException", "ArithmeticException", "UnsupportedOperationException",
            "NoSuchElementException", "RuntimeException");
    private static final Set<String> LIBRARY = Set.of("Math.max", "Math.min", "Math.floorMod", "Integer.bitCount",
            "Long.bitCount", "System.arraycopy", "String.length", "String.charAt");
    private static final Set<String> NUMBERS = Set.of("int", "long", "boolean");

    private final Trees trees;
    private final CompilationUnitTree unit;
    private final Map<ExecutableElement, Set<ExecutableElement>> calls = new LinkedHashMap<>();
    private final Set<String> publicNames = new HashSet<>();
    private final Set<String> privateNames = new TreeSet<>();
    private int classes = 0;
    private MethodTree method = null;

    private LanguageTest(Trees trees, CompilationUnitTree unit) {
        this.trees = trees;
        this.unit = unit;
    }

    public static void main(String[] args) throws Exception {
        var compiler = ToolProvider.getSystemJavaCompiler();
        var files = compiler.getStandardFileManager(null, null, null);
        var task = (JavacTask) compiler.getTask(null, files, null, List.of("-proc:none"), null,
                files.getJavaFileObjects(SOURCE));
        var units = new ArrayList<CompilationUnitTree>();
        task.parse().forEach(units::add);
        task.analyze();
        Check.due("files", 1, units.size());
        LanguageTest test = new LanguageTest(Trees.instance(task), units.get(0));
        test.scan(units.get(0), null);
        test.whole();
        Check.yes("signs 1 to 127 alone", Files.readString(SOURCE).chars().allMatch(sign -> sign >= 1 && sign <= 127));
        Check.end("LanguageTest");
    }

    private String place(Tree tree) {
        long at = trees.getSourcePositions().getStartPosition(unit, tree);
        return "line " + unit.getLineMap().getLineNumber(at) + ": ";
    }

    private void never(String rule, Tree tree) {
        Check.no(place(tree) + rule, true);
    }

    private Element element(Tree tree) {
        return trees.getElement(trees.getPath(unit, tree));
    }

    private void whole() {
        Check.yes("rule 11: some twelve classes, these are " + classes, classes <= 12);
        for (String name : privateNames) {
            Check.no("rule 1: a private method bears a public name: " + name, publicNames.contains(name));
        }
        for (ExecutableElement from : calls.keySet()) {
            int deep = deep(from, new ArrayList<>());
            Check.yes("rule 11: calls at most eight deep from " + from + ", these are " + deep, deep <= 8);
        }
    }

    /** Calls that come back to one that is open are recursion: they are not gone down again. */
    private int deep(ExecutableElement from, List<ExecutableElement> open) {
        if (open.contains(from)) {
            return 0;
        }
        open.add(from);
        int most = 0;
        for (ExecutableElement to : calls.getOrDefault(from, Set.of())) {
            most = Math.max(most, deep(to, open));
        }
        open.remove(from);
        return most + 1;
    }

    @Override
    public Void visitImport(ImportTree tree, Void nothing) {
        Check.yes(place(tree) + "rule 4: " + tree, IMPORTS.contains(tree.getQualifiedIdentifier().toString()));
        return super.visitImport(tree, nothing);
    }

    @Override
    public Void visitClass(ClassTree tree, Void nothing) {
        classes++;
        boolean face = tree.getSimpleName().contentEquals("SaturdayKeep");
        Set<Modifier> modifiers = tree.getModifiers().getFlags();
        Check.due(place(tree) + "rule 1: public", face ? 1 : 0, modifiers.contains(Modifier.PUBLIC) ? 1 : 0);
        Check.yes(place(tree) + "rule 1: final", !face || modifiers.contains(Modifier.FINAL));
        Check.yes(place(tree) + "rule 2: static", face || modifiers.contains(Modifier.STATIC));
        int fields = 0;
        for (Tree member : tree.getMembers()) {
            Check.no(place(member) + "rule 5: no initialiser block", member instanceof BlockTree);
            if (member instanceof VariableTree field) {
                Set<Modifier> of = field.getModifiers().getFlags();
                fields += of.contains(Modifier.STATIC) ? 0 : 1;
                Check.yes(place(field) + "rule 5: static fields are final",
                        !of.contains(Modifier.STATIC) || of.contains(Modifier.FINAL) && constant(field));
                Check.yes(place(field) + "rule 1: private", !face || of.contains(Modifier.PRIVATE)
                        || field.getName().contentEquals("NONE"));
            }
        }
        Check.yes(place(tree) + "rule 11: some twenty fields, these are " + fields, fields <= 20);
        return super.visitClass(tree, nothing);
    }

    private boolean constant(VariableTree field) {
        return ((VariableElement) element(field)).getConstantValue() != null;
    }

    @Override
    public Void visitVariable(VariableTree tree, Void nothing) {
        TypeMirror type = element(tree).asType();
        Check.no(place(tree) + "rule 3: no floats here", type.getKind() == TypeKind.DOUBLE || type.getKind() == TypeKind.FLOAT);
        String bare = type.toString().replace("[]", "");
        Check.yes(place(tree) + "rule 3: a type of the rules: " + bare, NUMBERS.contains(bare) || bare.equals("char")
                || bare.equals("java.lang.String") || bare.startsWith("SaturdayKeep.") || EXCEPTIONS.contains(bare));
        return super.visitVariable(tree, nothing);
    }

    @Override
    public Void visitMethod(MethodTree tree, Void nothing) {
        method = tree;
        ExecutableElement element = (ExecutableElement) element(tree);
        calls.put(element, new HashSet<>());
        if (tree.getReturnType() != null) {
            boolean isPublic = tree.getModifiers().getFlags().contains(Modifier.PUBLIC);
            boolean isPrivate = tree.getModifiers().getFlags().contains(Modifier.PRIVATE);
            if (isPublic) publicNames.add(tree.getName().toString());
            if (isPrivate) privateNames.add(tree.getName().toString());
            boolean ofFace = element.getEnclosingElement().getSimpleName().contentEquals("SaturdayKeep");
            Check.yes(place(tree) + "rule 1: public of the face, or private", !ofFace || isPublic || isPrivate);
            Check.no(place(tree) + "rule 6: no equals, hashCode, toString",
                    Set.of("equals", "hashCode", "toString").contains(tree.getName().toString()));
        }
        Check.yes(place(tree) + "rule 11: at most seven parameters", tree.getParameters().size() <= 7);
        long lines = tree.toString().lines().count();
        Check.yes(place(tree) + "rule 11: some sixty lines, these are " + lines, lines <= 60);
        super.visitMethod(tree, nothing);
        method = null;
        return null;
    }

    @Override
    public Void visitMethodInvocation(MethodInvocationTree tree, Void nothing) {
        ExecutableElement called = (ExecutableElement) element(tree.getMethodSelect());
        TypeElement of = (TypeElement) called.getEnclosingElement();
        String name = of.getSimpleName() + "." + called.getSimpleName();
        boolean own = of.getQualifiedName().toString().startsWith("SaturdayKeep");
        Check.yes(place(tree) + "rule 4: " + name, own || LIBRARY.contains(name) || name.equals("Object.<init>"));
        if (own && method != null) {
            calls.get((ExecutableElement) element(method)).add(called);
        }
        return super.visitMethodInvocation(tree, nothing);
    }

    @Override
    public Void visitNewClass(NewClassTree tree, Void nothing) {
        String name = tree.getIdentifier().toString();
        boolean inMethod = method != null && method.getReturnType() != null;
        // So that a run's room is known: what a house needs is made in its constructor.
        Check.yes(place(tree) + "rule 12: a call makes exceptions alone", !inMethod || EXCEPTIONS.contains(name));
        Check.yes(place(tree) + "rule 2: no class without a name", tree.getClassBody() == null);
        return super.visitNewClass(tree, nothing);
    }

    @Override
    public Void visitNewArray(NewArrayTree tree, Void nothing) {
        Check.yes(place(tree) + "rule 12: a call makes no row", method == null || method.getReturnType() == null);
        for (ExpressionTree length : tree.getDimensions()) {
            Check.yes(place(tree) + "rule 7: the length is a constant", isConstant(length));
        }
        return super.visitNewArray(tree, nothing);
    }

    @Override
    public Void visitThrow(ThrowTree tree, Void nothing) {
        Check.yes(place(tree) + "rule 6: no throw in a constructor", method != null && method.getReturnType() != null);
        if (tree.getExpression() instanceof NewClassTree made) {
            Check.yes(place(tree) + "rule 6: one of the exceptions", EXCEPTIONS.contains(made.getIdentifier().toString()));
            Check.yes(place(tree) + "rule 6: a written text, or none", made.getArguments().isEmpty()
                    || made.getArguments().size() == 1 && made.getArguments().get(0) instanceof LiteralTree);
        } else {
            never("rule 6: throw new E(..)", tree);
        }
        return super.visitThrow(tree, nothing);
    }

    @Override
    public Void visitBinary(BinaryTree tree, Void nothing) {
        boolean divides = tree.getKind() == Tree.Kind.DIVIDE || tree.getKind() == Tree.Kind.REMAINDER;
        // shareOf is the one method that divides by what is not a constant; it looks at it first.
        boolean looked = method != null && method.getName().contentEquals("shareOf")
                && method.getBody().toString().contains("if (all <= 0");
        Check.yes(place(tree) + "rule 7: a divisor that is not 0", !divides || looked || isConstant(tree.getRightOperand()));
        TypeMirror type = trees.getTypeMirror(trees.getPath(unit, tree));
        Check.no(place(tree) + "rule 10: texts are not joined by +", type.toString().equals("java.lang.String"));
        return super.visitBinary(tree, nothing);
    }

    @Override
    public Void visitCompoundAssignment(CompoundAssignmentTree tree, Void nothing) {
        boolean divides = tree.getKind() == Tree.Kind.DIVIDE_ASSIGNMENT || tree.getKind() == Tree.Kind.REMAINDER_ASSIGNMENT;
        Check.yes(place(tree) + "rule 7: a divisor that is not 0", !divides || isConstant(tree.getExpression()));
        return super.visitCompoundAssignment(tree, nothing);
    }

    private boolean isConstant(ExpressionTree tree) {
        if (tree instanceof LiteralTree literal) {
            return !literal.getValue().equals(0);
        }
        if (tree instanceof BinaryTree both) {
            return isConstant(both.getLeftOperand()) && isConstant(both.getRightOperand());
        }
        Object value = element(tree) instanceof VariableElement named ? named.getConstantValue() : null;
        return value != null && !value.equals(0) && !value.equals(0L);
    }

    @Override
    public Void visitTry(TryTree tree, Void nothing) {
        // None is needed so far; where one comes, rule 6 must be looked at by hand first.
        never("rule 6: try", tree);
        return super.visitTry(tree, nothing);
    }

    @Override
    public Void visitCatch(CatchTree tree, Void nothing) {
        never("rule 6: catch", tree);
        return super.visitCatch(tree, nothing);
    }

    @Override
    public Void visitLambdaExpression(LambdaExpressionTree tree, Void nothing) {
        never("rule 2: lambda", tree);
        return super.visitLambdaExpression(tree, nothing);
    }

    @Override
    public Void visitMemberReference(MemberReferenceTree tree, Void nothing) {
        never("rule 2: method reference", tree);
        return super.visitMemberReference(tree, nothing);
    }

    @Override
    public Void visitSynchronized(SynchronizedTree tree, Void nothing) {
        never("rule 6: synchronized", tree);
        return super.visitSynchronized(tree, nothing);
    }

    @Override
    public Void visitAssert(AssertTree tree, Void nothing) {
        never("rule 6: assert", tree);
        return super.visitAssert(tree, nothing);
    }
}

import com.sun.source.tree.AssertTree;
import com.sun.source.tree.BlockTree;
import com.sun.source.tree.ClassTree;
import com.sun.source.tree.CompilationUnitTree;
import com.sun.source.tree.ImportTree;
import com.sun.source.tree.LambdaExpressionTree;
import com.sun.source.tree.MemberReferenceTree;
import com.sun.source.tree.MethodInvocationTree;
import com.sun.source.tree.MethodTree;
import com.sun.source.tree.NewClassTree;
import com.sun.source.tree.PackageTree;
import com.sun.source.tree.SynchronizedTree;
import com.sun.source.tree.ThrowTree;
import com.sun.source.tree.Tree;
import com.sun.source.tree.TryTree;
import com.sun.source.tree.VariableTree;
import com.sun.source.util.TreePathScanner;
import com.sun.source.util.Trees;
import java.util.ArrayList;
import java.util.HashMap;
import java.util.HashSet;
import java.util.LinkedHashSet;
import java.util.List;
import java.util.Map;
import java.util.Set;
import javax.lang.model.element.Element;
import javax.lang.model.element.Modifier;
import javax.lang.model.type.ArrayType;
import javax.lang.model.type.TypeKind;
import javax.lang.model.type.TypeMirror;

/** Walks through the class, notes what calls what, and tells what LANGUAGE.md does not leave (by its rules' numbers). */
final class LanguageRules extends TreePathScanner<Void, Void> {
    private static final Set<String> LIBRARY = Set.of("java.lang.Integer.bitCount",
        "java.lang.Integer.numberOfTrailingZeros", "java.lang.Math.abs");

    private final Check check;
    private final CompilationUnitTree unit;
    private final Trees trees;
    private final List<ClassTree> classes = new ArrayList<>();
    private final Map<Element, Set<Element>> calls = new HashMap<>();
    private Element inside;

    LanguageRules(Check check, CompilationUnitTree unit, Trees trees) {
        this.check = check;
        this.unit = unit;
        this.trees = trees;
    }

    private void never(String rule, Tree tree) {
        check.due(rule + ", line " + unit.getLineMap().getLineNumber(start(tree)) + " stands", true, false);
    }

    private long start(Tree tree) {
        return trees.getSourcePositions().getStartPosition(unit, tree);
    }

    private long lines(Tree tree) {
        long end = trees.getSourcePositions().getEndPosition(unit, tree);
        return unit.getLineMap().getLineNumber(end) - unit.getLineMap().getLineNumber(start(tree)) + 1;
    }

    private static boolean isOwn(Element e) {
        return e.toString().startsWith("RoadCounts");
    }

    @Override
    public Void visitClass(ClassTree tree, Void none) {
        boolean isOuter = getCurrentPath().getParentPath().getLeaf() instanceof CompilationUnitTree;
        boolean isMember = getCurrentPath().getParentPath().getLeaf() instanceof ClassTree;
        check.due("2 a member is " + tree.getSimpleName(), isOuter || isMember, true);
        boolean isStatic = tree.getModifiers().getFlags().contains(Modifier.STATIC);
        check.due("2 static is " + tree.getSimpleName(), isOuter || isStatic, true);
        classes.add(tree);
        return super.visitClass(tree, none);
    }

    @Override
    public Void visitMethod(MethodTree tree, Void none) {
        inside = trees.getElement(getCurrentPath());
        calls.putIfAbsent(inside, new LinkedHashSet<>());
        check.due("11 parameters of " + tree.getName(), tree.getParameters().size() <= 7, true);
        check.due("11 lines of " + tree.getName(), lines(tree) <= 60, true);
        super.visitMethod(tree, none);
        inside = null;
        return null;
    }

    @Override
    public Void visitMethodInvocation(MethodInvocationTree tree, Void none) {
        call(trees.getElement(getCurrentPath()));
        return super.visitMethodInvocation(tree, none);
    }

    @Override
    public Void visitNewClass(NewClassTree tree, Void none) {
        call(trees.getElement(getCurrentPath()));
        return super.visitNewClass(tree, none);
    }

    private void call(Element called) {
        Element owner = called.getEnclosingElement();
        String name = owner + "." + called.getSimpleName();
        boolean isSuper = name.equals("java.lang.Object.<init>");
        check.due("4 " + name + " is left", isOwn(owner) || isSuper || LIBRARY.contains(name), true);
        if (isOwn(owner) && inside != null) {
            calls.get(inside).add(called);
        }
    }

    @Override
    public Void visitVariable(VariableTree tree, Void none) {
        Element e = trees.getElement(getCurrentPath());
        check.due("3 the type of " + tree.getName(), isLeft(e.asType(), 2), true);
        boolean isStatic = tree.getModifiers().getFlags().contains(Modifier.STATIC);
        boolean isFinal = tree.getModifiers().getFlags().contains(Modifier.FINAL);
        check.due("5 constant is " + tree.getName(), !isStatic || isFinal && e.asType().getKind().isPrimitive(), true);
        return super.visitVariable(tree, none);
    }

    private static boolean isLeft(TypeMirror type, int dimensions) {
        if (type.getKind() == TypeKind.ARRAY) {
            TypeMirror part = ((ArrayType) type).getComponentType();
            boolean isOfObjects = part.getKind() == TypeKind.DECLARED;
            return dimensions > 0 && (dimensions == 2 || !isOfObjects) && isLeft(part, dimensions - 1);
        }
        return type.getKind().isPrimitive() || type.toString().startsWith("RoadCounts");
    }

    @Override
    public Void visitBlock(BlockTree tree, Void none) {
        check.due("5 no static block", tree.isStatic(), false);
        return super.visitBlock(tree, none);
    }

    @Override
    public Void visitThrow(ThrowTree tree, Void none) {
        never("6 throw", tree);
        return super.visitThrow(tree, none);
    }

    @Override
    public Void visitTry(TryTree tree, Void none) {
        never("6 try", tree);
        return super.visitTry(tree, none);
    }

    @Override
    public Void visitSynchronized(SynchronizedTree tree, Void none) {
        never("6 synchronized", tree);
        return super.visitSynchronized(tree, none);
    }

    @Override
    public Void visitAssert(AssertTree tree, Void none) {
        never("6 assert", tree);
        return super.visitAssert(tree, none);
    }

    @Override
    public Void visitLambdaExpression(LambdaExpressionTree tree, Void none) {
        never("2 lambda", tree);
        return super.visitLambdaExpression(tree, none);
    }

    @Override
    public Void visitMemberReference(MemberReferenceTree tree, Void none) {
        never("2 method reference", tree);
        return super.visitMemberReference(tree, none);
    }

    @Override
    public Void visitImport(ImportTree tree, Void none) {
        never("4 import", tree);
        return super.visitImport(tree, none);
    }

    @Override
    public Void visitPackage(PackageTree tree, Void none) {
        never("package", tree);
        return super.visitPackage(tree, none);
    }

    void checkSizes() {
        check.due("11 classes", classes.size() <= 12, true);
        for (ClassTree c : classes) {
            long fields = c.getMembers().stream().filter(m -> m instanceof VariableTree v
                && !v.getModifiers().getFlags().contains(Modifier.STATIC)).count();
            check.due("11 fields of " + c.getSimpleName(), fields <= 20, true);
        }
    }

    void checkCalls() {
        check.due("methods were found", calls.size() > 22, true);
        for (Element method : calls.keySet()) {
            int depth = depthFrom(method, new HashSet<>());
            check.due("8 and 11 calls from " + method + " go " + depth + " deep", depth <= 8, true);
        }
    }

    /** How many calls stand open at most, the first included; a recursion, which the class needs nowhere, is too deep. */
    private int depthFrom(Element method, Set<Element> open) {
        if (!open.add(method)) {
            return 1000;
        }
        int deepest = 0;
        for (Element called : calls.getOrDefault(method, Set.of())) {
            deepest = Math.max(deepest, depthFrom(called, open));
        }
        open.remove(method);
        return 1 + deepest;
    }
}

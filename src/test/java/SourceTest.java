import com.sun.source.tree.AssertTree;
import com.sun.source.tree.BinaryTree;
import com.sun.source.tree.ClassTree;
import com.sun.source.tree.CompilationUnitTree;
import com.sun.source.tree.DoWhileLoopTree;
import com.sun.source.tree.IdentifierTree;
import com.sun.source.tree.ImportTree;
import com.sun.source.tree.LambdaExpressionTree;
import com.sun.source.tree.MemberReferenceTree;
import com.sun.source.tree.MethodInvocationTree;
import com.sun.source.tree.MethodTree;
import com.sun.source.tree.NewArrayTree;
import com.sun.source.tree.NewClassTree;
import com.sun.source.tree.SynchronizedTree;
import com.sun.source.tree.ThrowTree;
import com.sun.source.tree.Tree;
import com.sun.source.tree.TryTree;
import com.sun.source.tree.TypeCastTree;
import com.sun.source.tree.VariableTree;
import com.sun.source.util.JavacTask;
import com.sun.source.util.TreePath;
import com.sun.source.util.TreePathScanner;
import com.sun.source.util.Trees;
import java.io.File;
import java.io.IOException;
import java.util.HashMap;
import java.util.HashSet;
import java.util.List;
import java.util.Map;
import java.util.Set;
import java.util.TreeSet;
import javax.lang.model.element.Element;
import javax.lang.model.element.ElementKind;
import javax.lang.model.element.Modifier;
import javax.tools.JavaCompiler;
import javax.tools.ToolProvider;

/** The rules of LANGUAGE.md that can be read off the source. */
public final class SourceTest {
    private static final Check CHECK = new Check();
    private static final Set<String> LIBRARY = Set.of("System.arraycopy", "Math.floorMod", "Math.max", "Math.min",
        "Integer.compare", "Integer.bitCount", "Long.compare");
    private static final Set<String> FACE = Set.of("begins", "sizes", "sets", "draws", "turns", "adds", "times", "over",
        "parts", "rests", "size", "at", "moved", "spun", "row", "simple", "least", "factors", "factor", "telling",
        "common", "ways", "layer", "spaces", "type", "clear", "tells", "word", "nulls", "poly", "back", "told", "digest");

    /** Walks through the class once and collects who calls whom. */
    private static final class Walk extends TreePathScanner<Void, Void> {
        final Trees trees;
        final CompilationUnitTree unit;
        final Map<String, Set<String>> calls = new HashMap<>();
        int classes = 0;

        Walk(Trees trees, CompilationUnitTree unit) {
            this.trees = trees;
            this.unit = unit;
        }

        private void forbid(String what, Tree tree) {
            long line = unit.getLineMap().getLineNumber(trees.getSourcePositions().getStartPosition(unit, tree));
            CHECK.holds("line " + line + ": no " + what, false);
        }

        private String enclosing() {
            for (TreePath path = getCurrentPath(); path != null; path = path.getParentPath()) {
                if (path.getLeaf() instanceof MethodTree) {
                    return name(trees.getElement(path));
                }
            }
            return "";
        }

        private static String name(Element method) {
            return method.getEnclosingElement().getSimpleName() + "." + method.getSimpleName();
        }

        @Override
        public Void visitClass(ClassTree tree, Void none) {
            classes++;
            Element element = trees.getElement(getCurrentPath());
            Set<Modifier> modifiers = element.getModifiers();
            boolean outer = tree.getSimpleName().contentEquals("SpunModules");
            CHECK.holds(tree.getSimpleName() + " has the modifiers of its place", outer
                ? modifiers.equals(Set.of(Modifier.PUBLIC, Modifier.FINAL)) : modifiers.contains(Modifier.STATIC));
            int fields = 0;
            for (Tree member : tree.getMembers()) {
                if (member instanceof VariableTree v) {
                    fields += v.getModifiers().getFlags().contains(Modifier.STATIC) ? 0 : 1;
                    CHECK.holds(v.getName() + " is final if it is static",
                        !v.getModifiers().getFlags().contains(Modifier.STATIC)
                        || v.getModifiers().getFlags().contains(Modifier.FINAL));
                }
                if (outer && !(member instanceof ClassTree)) {
                    visible(member);
                }
            }
            CHECK.holds(tree.getSimpleName() + " has " + fields + " fields, at most 20", fields <= 20);
            return super.visitClass(tree, none);
        }

        private void visible(Tree member) {
            Set<Modifier> flags = member instanceof MethodTree m ? m.getModifiers().getFlags()
                : ((VariableTree) member).getModifiers().getFlags();
            String name = member instanceof MethodTree m ? m.getName().toString()
                : ((VariableTree) member).getName().toString();
            boolean promised = FACE.contains(name) && member instanceof MethodTree
                || Set.of("<init>", "NONE", "BAD", "NO", "FULL").contains(name);
            CHECK.holds(name + " is public if it is promised, else private",
                flags.contains(promised ? Modifier.PUBLIC : Modifier.PRIVATE));
        }

        @Override
        public Void visitMethod(MethodTree tree, Void none) {
            Element method = trees.getElement(getCurrentPath());
            boolean open = method.getModifiers().contains(Modifier.PUBLIC);
            CHECK.holds(method + ": a name of the face is public", open || !FACE.contains(tree.getName().toString()));
            CHECK.holds(method + " has at most seven parameters", tree.getParameters().size() <= 7);
            long first = unit.getLineMap().getLineNumber(trees.getSourcePositions().getStartPosition(unit, tree));
            long last = unit.getLineMap().getLineNumber(trees.getSourcePositions().getEndPosition(unit, tree));
            CHECK.holds(method + " has at most sixty lines", last - first < 60);
            calls.putIfAbsent(name(method), new TreeSet<>());
            return super.visitMethod(tree, none);
        }

        @Override
        public Void visitMethodInvocation(MethodInvocationTree tree, Void none) {
            Element called = trees.getElement(new TreePath(getCurrentPath(), tree.getMethodSelect()));
            String owner = called.getEnclosingElement().toString();
            if (called.getKind() == ElementKind.METHOD && !owner.startsWith("SpunModules")) {
                CHECK.holds(tree + ": the library's " + name(called), LIBRARY.contains(name(called)));
            } else if (called.getKind() == ElementKind.METHOD) {
                calls.computeIfAbsent(enclosing(), any -> new TreeSet<>()).add(name(called));
            }
            return super.visitMethodInvocation(tree, none);
        }

        @Override
        public Void visitNewClass(NewClassTree tree, Void none) {
            CHECK.holds(tree + " is made by a constructor", enclosing().isEmpty() || enclosing().endsWith("<init>"));
            CHECK.holds(tree + " has no body", tree.getClassBody() == null);
            return super.visitNewClass(tree, none);
        }

        @Override
        public Void visitNewArray(NewArrayTree tree, Void none) {
            CHECK.holds(tree + " is made by a constructor", enclosing().isEmpty() || enclosing().endsWith("<init>"));
            return super.visitNewArray(tree, none);
        }

        @Override
        public Void visitBinary(BinaryTree tree, Void none) {
            Tree.Kind kind = tree.getKind();
            if (kind == Tree.Kind.DIVIDE || kind == Tree.Kind.REMAINDER) {
                // constants, a counter from 1 on, and a size that was looked at in the lines before
                String right = tree.getRightOperand().toString();
                CHECK.holds(tree + ": a divisor that is known", Set.of("2", "3", "KEPT", "k", "size").contains(right));
            }
            return super.visitBinary(tree, none);
        }

        @Override
        public Void visitTypeCast(TypeCastTree tree, Void none) {
            CHECK.holds(tree + " casts a number", tree.getType().toString().equals("int"));
            return super.visitTypeCast(tree, none);
        }

        @Override
        public Void visitThrow(ThrowTree tree, Void none) {
            forbid("throw", tree);
            return super.visitThrow(tree, none);
        }

        @Override
        public Void visitTry(TryTree tree, Void none) {
            forbid("try", tree);
            return super.visitTry(tree, none);
        }

        @Override
        public Void visitSynchronized(SynchronizedTree tree, Void none) {
            forbid("synchronized", tree);
            return super.visitSynchronized(tree, none);
        }

        @Override
        public Void visitAssert(AssertTree tree, Void none) {
            forbid("assert", tree);
            return super.visitAssert(tree, none);
        }

        @Override
        public Void visitLambdaExpression(LambdaExpressionTree tree, Void none) {
            forbid("lambda", tree);
            return super.visitLambdaExpression(tree, none);
        }

        @Override
        public Void visitMemberReference(MemberReferenceTree tree, Void none) {
            forbid("method reference", tree);
            return super.visitMemberReference(tree, none);
        }

        @Override
        public Void visitImport(ImportTree tree, Void none) {
            forbid("import", tree);
            return super.visitImport(tree, none);
        }

        @Override
        public Void visitDoWhileLoop(DoWhileLoopTree tree, Void none) {
            forbid("do loop, whose end is hard to see", tree);
            return super.visitDoWhileLoop(tree, none);
        }

        @Override
        public Void visitIdentifier(IdentifierTree tree, Void none) {
            Set<String> far = Set.of("Object", "Thread", "Class", "Runtime", "double", "float", "Random");
            CHECK.holds(tree + " is not used", !far.contains(tree.getName().toString()));
            return super.visitIdentifier(tree, none);
        }
    }

    /** How many calls stand open at once when the method is called, itself included. */
    private static int depth(Map<String, Set<String>> calls, String method, Set<String> open) {
        if (!open.add(method)) {
            CHECK.holds(method + " does not call itself", false);
            return 0;
        }
        int deepest = 0;
        for (String called : calls.getOrDefault(method, Set.of())) {
            deepest = Math.max(deepest, depth(calls, called, open));
        }
        open.remove(method);
        return deepest + 1;
    }

    public static void main(String[] args) throws IOException {
        JavaCompiler compiler = ToolProvider.getSystemJavaCompiler();
        var files = compiler.getStandardFileManager(null, null, null);
        JavacTask task = (JavacTask) compiler.getTask(null, files, null, List.of("-proc:none"), null,
            files.getJavaFileObjects(new File("src/main/java/SpunModules.java")));
        CompilationUnitTree unit = task.parse().iterator().next();
        task.analyze();
        Walk walk = new Walk(Trees.instance(task), unit);
        walk.scan(unit, null);
        CHECK.holds("no package", unit.getPackage() == null);
        CHECK.holds(walk.classes + " classes, at most twelve", walk.classes <= 12);
        for (String name : FACE) {
            CHECK.holds(name + " is there", walk.calls.containsKey("SpunModules." + name));
            int depth = depth(walk.calls, "SpunModules." + name, new HashSet<>());
            CHECK.holds(name + " goes " + depth + " calls deep, at most 8", depth <= 8);
        }
        CHECK.ends();
    }
}

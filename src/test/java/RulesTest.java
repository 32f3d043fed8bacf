import com.sun.source.tree.AssertTree;
import com.sun.source.tree.BinaryTree;
import com.sun.source.tree.BlockTree;
import com.sun.source.tree.ClassTree;
import com.sun.source.tree.CompilationUnitTree;
import com.sun.source.tree.DoWhileLoopTree;
import com.sun.source.tree.ExpressionTree;
import com.sun.source.tree.LambdaExpressionTree;
import com.sun.source.tree.LiteralTree;
import com.sun.source.tree.MemberReferenceTree;
import com.sun.source.tree.MethodInvocationTree;
import com.sun.source.tree.MethodTree;
import com.sun.source.tree.NewArrayTree;
import com.sun.source.tree.NewClassTree;
import com.sun.source.tree.SynchronizedTree;
import com.sun.source.tree.ThrowTree;
import com.sun.source.tree.Tree;
import com.sun.source.tree.TryTree;
import com.sun.source.tree.TypeCastTree;
import com.sun.source.tree.VariableTree;
import com.sun.source.tree.WhileLoopTree;
import com.sun.source.util.JavacTask;
import com.sun.source.util.TreePath;
import com.sun.source.util.TreePathScanner;
import com.sun.source.util.Trees;
import java.nio.file.Path;
import java.util.ArrayDeque;
import java.util.Deque;
import java.util.List;
import java.util.Map;
import java.util.Set;
import java.util.TreeMap;
import java.util.TreeSet;
import javax.lang.model.element.Element;
import javax.lang.model.element.ExecutableElement;
import javax.lang.model.element.Modifier;
import javax.tools.JavaCompiler;
import javax.tools.StandardJavaFileManager;
import javax.tools.ToolProvider;

/**
 * What can be measured of LANGUAGE.md, on the tree that javac makes of the class. It is narrower than the rules
 * where the class needs less than they leave (no list, no try, no cast, no object made in a call but an exception).
 */
public final class RulesTest extends Checks {
    private static final Set<String> LIBRARY = Set.of("java.lang.Integer.bitCount(int)", "java.lang.Math.max(int,int)",
            "java.lang.Math.min(int,int)", "java.lang.Math.floorMod(int,int)", "java.lang.String.length()",
            "java.lang.String.charAt(int)", "java.lang.Object.Object()",
            "java.lang.System.arraycopy(java.lang.Object,int,java.lang.Object,int,int)");
    private static final Set<String> TYPES = Set.of("int", "int[]", "boolean", "boolean[]", "char", "String");
    private static final Set<String> THROWN = Set.of("IllegalStateException", "IllegalArgumentException",
            "IndexOutOfBoundsException", "UnsupportedOperationException", "NoSuchElementException");

    /** Of each method: whom it calls, the library's too. */
    private static final Map<String, Set<String>> CALLS = new TreeMap<>();
    private static final Set<String> CLASSES = new TreeSet<>();

    public static void main(String[] args) throws Exception {
        JavaCompiler compiler = ToolProvider.getSystemJavaCompiler();
        StandardJavaFileManager files = compiler.getStandardFileManager(null, null, null);
        JavacTask task = (JavacTask) compiler.getTask(null, files, null, List.of("-proc:none"), null,
                files.getJavaFileObjects(Path.of("src/main/java/WakeTower.java")));
        CompilationUnitTree unit = task.parse().iterator().next();
        task.analyze();
        run("no package, one import", () -> {
            yes("no package", unit.getPackageName() == null);
            due("imports", unit.getImports().size(), 1);
            due("classes in the file", unit.getTypeDecls().size(), 1);
        });
        run("what stands in the class", () -> new Look(unit, Trees.instance(task)).scan(unit, null));
        run("rule 11: some twelve classes", () -> yes(CLASSES + " are 12 at most", CLASSES.size() <= 12));
        run("rules 8 and 11: calls within calls", RulesTest::depths);
        end("RulesTest");
    }

    /** All that a method may come to call. */
    private static Set<String> reach(String method) {
        Set<String> reached = new TreeSet<>();
        Deque<String> open = new ArrayDeque<>(CALLS.get(method));
        while (!open.isEmpty()) {
            String next = open.pop();
            if (reached.add(next) && CALLS.containsKey(next)) {
                open.addAll(CALLS.get(next));
            }
        }
        return reached;
    }

    private static void depths() {
        Set<String> recursive = new TreeSet<>();
        CALLS.keySet().stream().filter(m -> reach(m).contains(m)).forEach(recursive::add);
        // those that carry their depth
        due("recursive " + recursive, recursive.equals(Set.of("LawText.readAll/3", "LawText.readAny/3", "LawText.readAtom/3"))
                ? 1 : 0, 1);
        Map<String, Integer> deep = new TreeMap<>();
        for (String method : CALLS.keySet()) {
            int calls = depth(method, recursive, deep);
            yes(method + " goes " + calls + " deep", calls <= 8);
        }
    }

    /** How many calls that are no recursion stand open at most, the method itself too. */
    private static int depth(String method, Set<String> recursive, Map<String, Integer> known) {
        if (known.containsKey(method)) {
            return known.get(method);
        }
        known.put(method, 0);
        int most = 0;
        for (String called : CALLS.getOrDefault(method, Set.of())) {
            most = Math.max(most, depth(called, recursive, known));
        }
        int deep = recursive.contains(method) ? most : most + 1;
        known.put(method, deep);
        return deep;
    }

    private static final class Look extends TreePathScanner<Void, Void> {
        private final CompilationUnitTree unit;
        private final Trees trees;
        private String method = null;
        private boolean making = false;

        Look(CompilationUnitTree unit, Trees trees) {
            this.unit = unit;
            this.trees = trees;
        }

        private long lineOf(long position) {
            return unit.getLineMap().getLineNumber(position);
        }

        private void never(String what, Tree tree) {
            long line = lineOf(trees.getSourcePositions().getStartPosition(unit, tree));
            no("line " + line + " has " + what, true);
        }

        @Override
        public Void visitClass(ClassTree tree, Void none) {
            String name = tree.getSimpleName().toString();
            CLASSES.add(name);
            Set<Modifier> flags = tree.getModifiers().getFlags();
            yes(name + " is final", flags.contains(Modifier.FINAL));
            yes(name + " is public or static inside", flags.contains(
                    name.equals("WakeTower") ? Modifier.PUBLIC : Modifier.STATIC));
            int fields = 0;
            for (Tree member : tree.getMembers()) {
                if (member instanceof VariableTree && !isStatic((VariableTree) member)) {
                    fields++;
                }
                if (member instanceof BlockTree) {
                    never("an initialiser block", member);
                }
            }
            yes(name + " has " + fields + " fields", fields <= 20);
            return super.visitClass(tree, none);
        }

        private static boolean isStatic(VariableTree tree) {
            return tree.getModifiers().getFlags().contains(Modifier.STATIC);
        }

        @Override
        public Void visitMethod(MethodTree tree, Void none) {
            Element element = trees.getElement(getCurrentPath());
            method = nameOf(element);
            making = tree.getReturnType() == null;
            CALLS.put(method, new TreeSet<>());
            long begin = lineOf(trees.getSourcePositions().getStartPosition(unit, tree));
            long end = lineOf(trees.getSourcePositions().getEndPosition(unit, tree));
            // what javac makes of itself has no end
            long lines = end < begin ? 0 : end - begin + 1;
            yes(method + " has " + lines + " lines", lines <= 60);
            yes(method + " has few parameters", tree.getParameters().size() <= 7);
            super.visitMethod(tree, none);
            method = null;
            return null;
        }

        private static String nameOf(Element element) {
            return element.getEnclosingElement().getSimpleName() + "." + element.getSimpleName() + "/"
                    + ((ExecutableElement) element).getParameters().size();
        }

        @Override
        public Void visitMethodInvocation(MethodInvocationTree tree, Void none) {
            Element called = trees.getElement(new TreePath(getCurrentPath(), tree.getMethodSelect()));
            if (method != null) {
                CALLS.get(method).add(nameOf(called));
            } else {
                never("a call outside of methods", tree);
            }
            String owner = called.getEnclosingElement().toString();
            if (!owner.startsWith("WakeTower")) {
                yes("rule 4: " + owner + "." + called, LIBRARY.contains(owner + "." + called));
            }
            return super.visitMethodInvocation(tree, none);
        }

        @Override
        public Void visitVariable(VariableTree tree, Void none) {
            String type = tree.getType().toString();
            boolean own = type.equals("Tower[]") || CLASSES.contains(type)
                    || trees.getElement(new TreePath(getCurrentPath(), tree.getType())) != null
                    && trees.getElement(new TreePath(getCurrentPath(), tree.getType())).toString().startsWith("WakeTower.");
            yes("rule 3: " + type, own || TYPES.contains(type));
            if (isStatic(tree)) {
                yes("rule 5: " + tree.getName(), tree.getModifiers().getFlags().contains(Modifier.FINAL) && type.equals("int"));
            }
            return super.visitVariable(tree, none);
        }

        @Override
        public Void visitNewClass(NewClassTree tree, Void none) {
            String type = tree.getIdentifier().toString();
            yes("rule 12: new " + type + " in " + method, method == null || making || THROWN.contains(type));
            return super.visitNewClass(tree, none);
        }

        @Override
        public Void visitNewArray(NewArrayTree tree, Void none) {
            yes("rule 12: new array in " + method, method == null || making);
            return super.visitNewArray(tree, none);
        }

        @Override
        public Void visitThrow(ThrowTree tree, Void none) {
            no("rule 6: throw in a constructor", making);
            ExpressionTree thrown = tree.getExpression();
            boolean right = thrown instanceof NewClassTree
                    && THROWN.contains(((NewClassTree) thrown).getIdentifier().toString())
                    && ((NewClassTree) thrown).getArguments().stream().allMatch(a -> a instanceof LiteralTree);
            yes("rule 6: " + tree, right);
            return super.visitThrow(tree, none);
        }

        @Override
        public Void visitBinary(BinaryTree tree, Void none) {
            if (tree.getKind() == Tree.Kind.PLUS) {
                String type = String.valueOf(trees.getTypeMirror(getCurrentPath()));
                yes("rule 10: + of " + type, type.equals("int"));
            }
            return super.visitBinary(tree, none);
        }

        @Override
        public Void visitTypeCast(TypeCastTree tree, Void none) {
            never("a cast", tree);
            return null;
        }

        @Override
        public Void visitTry(TryTree tree, Void none) {
            never("a try", tree);
            return null;
        }

        @Override
        public Void visitLambdaExpression(LambdaExpressionTree tree, Void none) {
            never("a lambda", tree);
            return null;
        }

        @Override
        public Void visitMemberReference(MemberReferenceTree tree, Void none) {
            never("a method reference", tree);
            return null;
        }

        @Override
        public Void visitAssert(AssertTree tree, Void none) {
            never("assert", tree);
            return null;
        }

        @Override
        public Void visitSynchronized(SynchronizedTree tree, Void none) {
            never("synchronized", tree);
            return null;
        }

        @Override
        public Void visitWhileLoop(WhileLoopTree tree, Void none) {
            never("a loop without a counter", tree);
            return null;
        }

        @Override
        public Void visitDoWhileLoop(DoWhileLoopTree tree, Void none) {
            never("a loop without a counter", tree);
            return null;
        }
    }
}

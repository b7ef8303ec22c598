import com.sun.source.tree.AssertTree;
import com.sun.source.tree.BinaryTree;
import com.sun.source.tree.ClassTree;
import com.sun.source.tree.CompilationUnitTree;
import com.sun.source.tree.CompoundAssignmentTree;
import com.sun.source.tree.DoWhileLoopTree;
import com.sun.source.tree.ExpressionTree;
import com.sun.source.tree.ForLoopTree;
import com.sun.source.tree.LambdaExpressionTree;
import com.sun.source.tree.MemberReferenceTree;
import com.sun.source.tree.MethodInvocationTree;
import com.sun.source.tree.MethodTree;
import com.sun.source.tree.NewArrayTree;
import com.sun.source.tree.NewClassTree;
import com.sun.source.tree.SynchronizedTree;
import com.sun.source.tree.ThrowTree;
import com.sun.source.tree.Tree;
import com.sun.source.tree.TryTree;
import com.sun.source.tree.VariableTree;
import com.sun.source.tree.WhileLoopTree;
import com.sun.source.util.JavacTask;
import com.sun.source.util.SourcePositions;
import com.sun.source.util.TreePathScanner;
import com.sun.source.util.Trees;
import java.io.IOException;
import java.net.URI;
import java.nio.file.Files;
import java.nio.file.Path;
import java.util.ArrayList;
import java.util.HashMap;
import java.util.List;
import java.util.Map;
import java.util.Set;
import java.util.TreeSet;
import javax.lang.model.element.Element;
import javax.lang.model.element.ElementKind;
import javax.lang.model.element.Modifier;
import javax.lang.model.type.TypeKind;
import javax.lang.model.type.TypeMirror;
import javax.tools.JavaCompiler;
import javax.tools.JavaFileObject;
import javax.tools.SimpleJavaFileObject;
import javax.tools.ToolProvider;

/**
 * The rules of LANGUAGE.md that can be seen in the source, as javac reads it: of
 * AnchorString none is broken, and of small wrong sources each breaks its own.
 */
public final class RulesTest {
    private static final Set<String> LIBRARY = Set.of("java.util.Arrays.fill", "java.lang.System.arraycopy",
            "java.lang.Math.min", "java.lang.Math.max", "java.lang.Integer.bitCount",
            "java.lang.String.length", "java.lang.String.charAt");
    private static final int MOST_LINES = 60;
    private static final int MOST_CALLS_DEEP = 8;
    private static final int MOST_PARAMETERS = 7;
    private static final int MOST_CLASSES = 12;
    private static final int MOST_FIELDS = 20;

    public static void main(String[] args) throws IOException {
        String path = args.length > 0 ? args[0] : "src/main/java/AnchorString.java";
        Due.same("AnchorString breaks", look(Files.readString(Path.of(path))).toString(), "[]");
        wrongSources();
        Due.end();
    }

    private static void wrongSources() {
        breaks("rule 2 lambda", "Runnable r = () -> { };");
        breaks("rule 2 method reference", "java.util.function.IntSupplier r = this::ask;");
        breaks("rule 2 class in a method", "int read(int a) { class B { } return a; }");
        breaks("rule 2 class without a name", "Runnable r = new Runnable() { public void run() { } };");
        breaks("rule 2 class that is not static", "private class B { }");
        breaks("rule 3 type java.lang.Object", "Object o;");
        breaks("rule 3 type double", "double d;");
        breaks("rule 3 type AnchorString[][]", "AnchorString[][] d;");
        breaks("rule 4 java.lang.Math.addExact", "int read(int a) { return Math.addExact(a, 1); }");
        breaks("rule 4 java.lang.Object.hashCode", "int read(int a) { return this.hashCode(); }");
        breaks("rule 4 java.util.Random", "Object o = new java.util.Random();");
        breaks("rule 5 static field count", "private static int count = 0;");
        breaks("rule 5 static block", "static { }");
        breaks("rule 5 static array changed", "static final int[] ROW = {1}; void read(int a) { ROW[0] = a; }");
        breaks("rule 5 static array counted", "static final int[] ROW = {1}; void read(int a) { ROW[0]++; }");
        breaks("rule 6 throw", "int read(int a) { throw new IllegalStateException(); }");
        breaks("rule 6 try", "int read(int a) { try { return a; } finally { a++; } }");
        breaks("rule 6 synchronized", "int read(int a) { synchronized (this) { return a; } }");
        breaks("rule 6 assert", "int read(int a) { assert a > 0; return a; }");
        breaks("rule 6 == of texts", "boolean read(String a, String b) { return a == b; }");
        breaks("rule 8 round: read", "int read(int a) { return a > 0 ? read(a - 1) : 0; }");
        breaks("rule 8 round: one", "int one(int a) { return two(a); } int two(int a) { return one(a); }");
        breaks("rule 9 loop without a bound", "void read(int a) { for (;;) { } }");
        breaks("rule 9 loop without a bound", "void read(boolean a) { while (a) { } }");
        breaks("rule 9 loop without a bound", "void read(boolean a) { do { } while (a); }");
        breaks("rule 10 text by +", "String read(String a) { return a + 1; }");
        breaks("rule 10 text by +", "void read(String a) { a += 1; }");
        breaks("rule 11 parameters of read", "void read(int a, int b, int c, int d, int e, int f, int g, int h) { }");
        breaks("rule 11 lines of read", "void read() {" + "\n".repeat(60) + "}");
        breaks("rule 11 calls 9 deep", "void a() { b(); } void b() { c(); } void c() { d(); } void d() { e(); } "
                + "void e() { f(); } void f() { g(); } void g() { h(); } void h() { i(); } void i() { }");
        breaks("rule 11 fields of AnchorString", "int a, b, c, d, e, f, g, h, i, j, k, l, m, n, o, p, q, r, s, t, u;");
        breaks("rule 11 classes", "static class B { } ".concat(
                "static class C { } static class D { } static class E { } static class F { } static class G { } "
                + "static class H { } static class I { } static class J { } static class K { } static class L { } static class M { }"));
        breaks("rule 12 made in read", "int read(int a) { int[] b = new int[a]; return b.length; }");
        breaks("rule 12 made in read", "AnchorString read(int a) { return new AnchorString(); }");
        breaks("rule 13 native or the like: read", "native int read(int a);");
    }

    private static void breaks(String rule, String member) {
        String source = "public final class AnchorString { int ask() { return 0; } " + member + " }";
        Set<String> broken = look(source);
        Due.same(member, broken.contains(rule) ? rule : broken.toString(), rule);
    }

    /** Which rules a source breaks. */
    private static Set<String> look(String source) {
        JavaCompiler compiler = ToolProvider.getSystemJavaCompiler();
        JavaFileObject file = new SimpleJavaFileObject(URI.create("string:///AnchorString.java"), JavaFileObject.Kind.SOURCE) {
            @Override
            public CharSequence getCharContent(boolean ignoreErrors) {
                return source;
            }
        };
        JavacTask task = (JavacTask) compiler.getTask(null, null, null, List.of("-proc:none"), null, List.of(file));
        try {
            CompilationUnitTree unit = task.parse().iterator().next();
            task.analyze();
            Look look = new Look(Trees.instance(task), unit);
            look.scan(unit, null);
            look.end();
            return look.broken;
        } catch (IOException e) {
            throw new IllegalStateException(e);
        }
    }

    private static final class Look extends TreePathScanner<Void, Void> {
        final Set<String> broken = new TreeSet<>();
        private final Trees trees;
        private final CompilationUnitTree unit;
        private final Map<Element, Set<Element>> calls = new HashMap<>();
        private MethodTree method = null;
        private int classes = 0;

        Look(Trees trees, CompilationUnitTree unit) {
            this.trees = trees;
            this.unit = unit;
        }

        private Element element(Tree tree) {
            return trees.getElement(trees.getPath(unit, tree));
        }

        private TypeMirror type(Tree tree) {
            return trees.getTypeMirror(trees.getPath(unit, tree));
        }

        private static boolean isOwn(String name) {
            return name.equals("AnchorString") || name.startsWith("AnchorString.");
        }

        private static String ownerOf(Element e) {
            return e.getEnclosingElement().toString();
        }

        @Override
        public Void visitClass(ClassTree tree, Void v) {
            classes++;
            boolean isOuter = getCurrentPath().getParentPath().getLeaf() == unit;
            int fields = 0;
            for (Tree member : tree.getMembers()) {
                if (member.getKind() == Tree.Kind.BLOCK) {
                    broken.add("rule 5 static block");
                }
                if (member instanceof VariableTree field && !field.getModifiers().getFlags().contains(Modifier.STATIC)) {
                    fields++;
                }
            }
            if (fields > MOST_FIELDS) {
                broken.add("rule 11 fields of " + tree.getSimpleName());
            }
            if (method != null) {
                broken.add("rule 2 class in a method");
            } else if (!isOuter && !tree.getModifiers().getFlags().contains(Modifier.STATIC)) {
                broken.add("rule 2 class that is not static");
            }
            return super.visitClass(tree, v);
        }

        @Override
        public Void visitMethod(MethodTree tree, Void v) {
            MethodTree outer = method;
            method = tree;
            calls.putIfAbsent(element(tree), new java.util.LinkedHashSet<>());
            if (tree.getParameters().size() > MOST_PARAMETERS) {
                broken.add("rule 11 parameters of " + tree.getName());
            }
            if (linesOf(tree) > MOST_LINES) {
                broken.add("rule 11 lines of " + tree.getName());
            }
            if (tree.getBody() == null) {
                broken.add("rule 13 native or the like: " + tree.getName());
            }
            super.visitMethod(tree, v);
            method = outer;
            return null;
        }

        private long linesOf(Tree tree) {
            SourcePositions at = trees.getSourcePositions();
            return unit.getLineMap().getLineNumber(at.getEndPosition(unit, tree))
                    - unit.getLineMap().getLineNumber(at.getStartPosition(unit, tree)) + 1;
        }

        @Override
        public Void visitVariable(VariableTree tree, Void v) {
            checkType(type(tree));
            Set<Modifier> flags = tree.getModifiers().getFlags();
            if (flags.contains(Modifier.STATIC) && !flags.contains(Modifier.FINAL)) {
                broken.add("rule 5 static field " + tree.getName());
            }
            return super.visitVariable(tree, v);
        }

        /** What this program needs; the rules allow some types more. */
        private void checkType(TypeMirror type) {
            String name = type.toString();
            boolean isRow = name.endsWith("[]");
            String each = isRow ? name.substring(0, name.length() - 2) : name;
            if (!Set.of("int", "long", "boolean").contains(each) && !isOwn(each) && (isRow || !each.equals("java.lang.String"))
                    || each.endsWith("[]")) {
                broken.add("rule 3 type " + name);
            }
        }

        @Override
        public Void visitMethodInvocation(MethodInvocationTree tree, Void v) {
            Element called = element(tree.getMethodSelect());
            boolean isSuper = called != null && called.getKind() == ElementKind.CONSTRUCTOR;
            if (called != null && !isSuper) {
                noteCall(called);
            }
            return super.visitMethodInvocation(tree, v);
        }

        private void noteCall(Element called) {
            if (method != null) {
                calls.get(element(method)).add(called);
            }
            String name = ownerOf(called) + "." + called.getSimpleName();
            if (!isOwn(name) && !LIBRARY.contains(name)) {
                broken.add("rule 4 " + name);
            }
        }

        @Override
        public Void visitNewClass(NewClassTree tree, Void v) {
            String name = type(tree).toString();
            if (tree.getClassBody() != null) {
                broken.add("rule 2 class without a name");
            } else if (!isOwn(name)) {
                broken.add("rule 4 " + name);
            }
            noteMade();
            return super.visitNewClass(tree, v);
        }

        @Override
        public Void visitNewArray(NewArrayTree tree, Void v) {
            noteMade();
            return super.visitNewArray(tree, v);
        }

        /** This program makes all that it needs with the object itself. */
        private void noteMade() {
            if (method != null && !method.getName().contentEquals("<init>")) {
                broken.add("rule 12 made in " + method.getName());
            }
        }

        @Override
        public Void visitAssignment(com.sun.source.tree.AssignmentTree tree, Void v) {
            checkChanged(tree.getVariable(), "rule 5 static array changed");
            return super.visitAssignment(tree, v);
        }

        @Override
        public Void visitUnary(com.sun.source.tree.UnaryTree tree, Void v) {
            checkChanged(tree.getExpression(), "rule 5 static array counted");
            return super.visitUnary(tree, v);
        }

        private void checkChanged(ExpressionTree place, String rule) {
            if (place instanceof com.sun.source.tree.ArrayAccessTree access) {
                Element row = element(access.getExpression());
                if (row != null && row.getModifiers().contains(Modifier.STATIC)) {
                    broken.add(rule);
                }
            }
        }

        @Override
        public Void visitCompoundAssignment(CompoundAssignmentTree tree, Void v) {
            checkText(tree.getKind() == Tree.Kind.PLUS_ASSIGNMENT, type(tree));
            checkChanged(tree.getVariable(), "rule 5 static array changed");
            return super.visitCompoundAssignment(tree, v);
        }

        @Override
        public Void visitBinary(BinaryTree tree, Void v) {
            checkText(tree.getKind() == Tree.Kind.PLUS, type(tree));
            boolean isEqual = tree.getKind() == Tree.Kind.EQUAL_TO || tree.getKind() == Tree.Kind.NOT_EQUAL_TO;
            if (isEqual && type(tree.getLeftOperand()).toString().startsWith("java.lang.")
                    && type(tree.getRightOperand()).getKind() != TypeKind.NULL) {
                broken.add("rule 6 == of texts");
            }
            return super.visitBinary(tree, v);
        }

        private void checkText(boolean isPlus, TypeMirror type) {
            if (isPlus && type.toString().equals("java.lang.String")) {
                broken.add("rule 10 text by +");
            }
        }

        @Override
        public Void visitForLoop(ForLoopTree tree, Void v) {
            checkBound(tree.getCondition());
            return super.visitForLoop(tree, v);
        }

        @Override
        public Void visitWhileLoop(WhileLoopTree tree, Void v) {
            checkBound(tree.getCondition());
            return super.visitWhileLoop(tree, v);
        }

        @Override
        public Void visitDoWhileLoop(DoWhileLoopTree tree, Void v) {
            checkBound(tree.getCondition());
            return super.visitDoWhileLoop(tree, v);
        }

        /** A comparison must end every loop, alone or with others that must hold too. */
        private void checkBound(ExpressionTree condition) {
            ExpressionTree c = condition;
            while (c != null && (c.getKind() == Tree.Kind.PARENTHESIZED || c.getKind() == Tree.Kind.CONDITIONAL_AND)) {
                c = c instanceof BinaryTree and ? and.getLeftOperand()
                        : ((com.sun.source.tree.ParenthesizedTree) c).getExpression();
            }
            Set<Tree.Kind> bounds = Set.of(Tree.Kind.LESS_THAN, Tree.Kind.LESS_THAN_EQUAL, Tree.Kind.GREATER_THAN,
                    Tree.Kind.GREATER_THAN_EQUAL);
            if (c == null || !bounds.contains(c.getKind())) {
                broken.add("rule 9 loop without a bound");
            }
        }

        @Override
        public Void visitLambdaExpression(LambdaExpressionTree tree, Void v) {
            broken.add("rule 2 lambda");
            return super.visitLambdaExpression(tree, v);
        }

        @Override
        public Void visitMemberReference(MemberReferenceTree tree, Void v) {
            broken.add("rule 2 method reference");
            return super.visitMemberReference(tree, v);
        }

        @Override
        public Void visitThrow(ThrowTree tree, Void v) {
            broken.add("rule 6 throw");
            return super.visitThrow(tree, v);
        }

        @Override
        public Void visitTry(TryTree tree, Void v) {
            broken.add("rule 6 try");
            return super.visitTry(tree, v);
        }

        @Override
        public Void visitSynchronized(SynchronizedTree tree, Void v) {
            broken.add("rule 6 synchronized");
            return super.visitSynchronized(tree, v);
        }

        @Override
        public Void visitAssert(AssertTree tree, Void v) {
            broken.add("rule 6 assert");
            return super.visitAssert(tree, v);
        }

        /** What can be told only behind all of it. */
        void end() {
            if (classes > MOST_CLASSES) {
                broken.add("rule 11 classes");
            }
            for (Element e : calls.keySet()) {
                int deep = deepest(e, new ArrayList<>());
                if (deep > MOST_CALLS_DEEP) {
                    broken.add("rule 11 calls " + deep + " deep");
                }
            }
        }

        /** How many calls stand open at once from here, the library's own as one. */
        private int deepest(Element e, List<Element> open) {
            if (open.contains(e)) {
                broken.add("rule 8 round: " + e.getSimpleName());
                return 0;
            }
            open.add(e);
            int most = 0;
            for (Element called : calls.getOrDefault(e, Set.of())) {
                most = Math.max(most, deepest(called, open));
            }
            open.remove(open.size() - 1);
            return most + 1;
        }
    }
}

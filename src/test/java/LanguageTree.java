import com.sun.source.tree.ArrayTypeTree;
import com.sun.source.tree.AssertTree;
import com.sun.source.tree.BinaryTree;
import com.sun.source.tree.ClassTree;
import com.sun.source.tree.CompilationUnitTree;
import com.sun.source.tree.DoWhileLoopTree;
import com.sun.source.tree.ExpressionTree;
import com.sun.source.tree.ForLoopTree;
import com.sun.source.tree.ImportTree;
import com.sun.source.tree.LambdaExpressionTree;
import com.sun.source.tree.MemberReferenceTree;
import com.sun.source.tree.MethodInvocationTree;
import com.sun.source.tree.MethodTree;
import com.sun.source.tree.NewArrayTree;
import com.sun.source.tree.NewClassTree;
import com.sun.source.tree.SynchronizedTree;
import com.sun.source.tree.ThrowTree;
import com.sun.source.tree.Tree;
import com.sun.source.tree.TryTree;
import com.sun.source.tree.TypeCastTree;
import com.sun.source.tree.VariableTree;
import com.sun.source.tree.WhileLoopTree;
import com.sun.source.util.JavacTask;
import com.sun.source.util.TreePath;
import com.sun.source.util.TreePathScanner;
import com.sun.source.util.Trees;
import java.io.IOException;
import java.nio.file.Path;
import java.util.ArrayDeque;
import java.util.Deque;
import java.util.List;
import java.util.Map;
import java.util.Set;
import java.util.TreeMap;
import java.util.TreeSet;
import javax.lang.model.element.Element;
import javax.lang.model.element.ElementKind;
import javax.lang.model.element.Modifier;
import javax.lang.model.type.TypeKind;
import javax.tools.JavaCompiler;
import javax.tools.StandardJavaFileManager;
import javax.tools.ToolProvider;

/** What of ../shared/LANGUAGE.md can be seen in the code, as the compiler reads it; run from the project's root. */
public final class LanguageTree {
    private static final Set<String> LIBRARY = Set.of("java.lang.String.length", "java.lang.String.charAt", "java.lang.Integer.bitCount",
        "java.lang.Math.min", "java.lang.System.arraycopy", "java.lang.Object.<init>");
    private static final Set<TypeKind> NUMBERS = Set.of(TypeKind.INT, TypeKind.LONG, TypeKind.BOOLEAN, TypeKind.VOID);
    private static final int DEEPEST = 8;

    private static int wrong = 0;

    public static void main(String[] args) throws IOException {
        JavaCompiler compiler = ToolProvider.getSystemJavaCompiler();
        try (StandardJavaFileManager files = compiler.getStandardFileManager(null, null, null)) {
            JavacTask task = (JavacTask) compiler.getTask(null, files, null, List.of("-proc:none"), null,
                files.getJavaFileObjects(Path.of("src/main/java/NextDoor.java")));
            Iterable<? extends CompilationUnitTree> units = task.parse();
            task.analyze();
            Code code = new Code(Trees.instance(task));
            code.scan(units, null);
            must("4", code.seen > 0, "the code has been read");
            new Calls(code.calls).look(code.publicOnes);
        }
        System.out.println(wrong == 0 ? "the rules are kept" : wrong + " rules are not kept");
        if (wrong != 0) {
            System.exit(1);
        }
    }

    private static void must(String rule, boolean is, String what) {
        if (!is) {
            wrong++;
            System.out.println("rule " + rule + ", not so: " + what);
        }
    }

    /** Goes through all of the code, and keeps who calls whom. */
    private static final class Code extends TreePathScanner<Void, Void> {
        final Trees trees;
        final Map<String, Set<String>> calls = new TreeMap<>();
        final Set<String> publicOnes = new TreeSet<>();
        final Deque<String> within = new ArrayDeque<>();
        int seen = 0;

        Code(Trees trees) {
            this.trees = trees;
        }

        private Element element(Tree tree) {
            return trees.getElement(new TreePath(getCurrentPath(), tree));
        }

        private static String name(Element e) {
            return e.getEnclosingElement() + "." + e.getSimpleName();
        }

        private static boolean isOwn(String name) {
            return name.startsWith("NextDoor.");
        }

        @Override
        public Void visitImport(ImportTree t, Void v) {
            must("4", false, "nothing is imported: " + t);
            return super.visitImport(t, v);
        }

        @Override
        public Void visitClass(ClassTree t, Void v) {
            Element e = trees.getElement(getCurrentPath());
            boolean isInside = e.getEnclosingElement().getKind() == ElementKind.CLASS;
            must("2", e.getSimpleName().contentEquals("NextDoor") || isInside && e.getModifiers().contains(Modifier.STATIC), e + " is static, not local");
            for (Tree member : t.getMembers()) {
                must("5", member.getKind() != Tree.Kind.BLOCK, e + " has no initialiser block");
            }
            return super.visitClass(t, v);
        }

        @Override
        public Void visitMethod(MethodTree t, Void v) {
            Element e = trees.getElement(getCurrentPath());
            within.push(name(e));
            calls.putIfAbsent(name(e), new TreeSet<>());
            if (e.getModifiers().contains(Modifier.PUBLIC) && isOwn(name(e))) {
                publicOnes.add(name(e));
            }
            super.visitMethod(t, v);
            within.pop();
            return null;
        }

        @Override
        public Void visitVariable(VariableTree t, Void v) {
            Element e = trees.getElement(getCurrentPath());
            Tree type = t.getType();
            if (type instanceof ArrayTypeTree a) {
                type = a.getType();
            }
            Element of = element(type);
            boolean isNumber = of == null && NUMBERS.contains(trees.getTypeMirror(new TreePath(getCurrentPath(), type)).getKind());
            boolean isText = of != null && of.toString().equals("java.lang.String");
            must("3", isNumber || isText || of != null && of.toString().startsWith("NextDoor"), e + " is of a type that there is: " + t.getType());
            boolean isStatic = e.getKind() == ElementKind.FIELD && e.getModifiers().contains(Modifier.STATIC);
            must("5", !isStatic || e.getModifiers().contains(Modifier.FINAL) && isNumber, e + " is a constant");
            return super.visitVariable(t, v);
        }

        @Override
        public Void visitMethodInvocation(MethodInvocationTree t, Void v) {
            Element e = element(t.getMethodSelect());
            called(name(e), e.getKind() == ElementKind.CONSTRUCTOR);
            return super.visitMethodInvocation(t, v);
        }

        private void called(String name, boolean isConstructor) {
            seen++;
            must("4", isOwn(name) || isConstructor || LIBRARY.contains(name), name + " is of the library that there is");
            if (!within.isEmpty() && !isConstructor) {
                calls.get(within.peek()).add(name);
            }
        }

        @Override
        public Void visitNewClass(NewClassTree t, Void v) {
            must("2", t.getClassBody() == null, "no class without a name: " + t);
            must("3", element(t.getIdentifier()).toString().startsWith("NextDoor"), "own objects alone are made: " + t);
            made(t);
            return super.visitNewClass(t, v);
        }

        @Override
        public Void visitNewArray(NewArrayTree t, Void v) {
            must("3", t.getDimensions().size() <= 1, "arrays are of one dimension: " + t);
            made(t);
            return super.visitNewArray(t, v);
        }

        /** A stricter rule of this project's own: nothing is made but in constructors. */
        private void made(Tree t) {
            must("12", within.isEmpty() || within.peek().endsWith("<init>"), "no call makes an object: " + t);
        }

        @Override
        public Void visitTypeCast(TypeCastTree t, Void v) {
            must("6", t.getType().getKind() == Tree.Kind.PRIMITIVE_TYPE, "only numbers are cast: " + t);
            return super.visitTypeCast(t, v);
        }

        @Override
        public Void visitBinary(BinaryTree t, Void v) {
            boolean divides = t.getKind() == Tree.Kind.DIVIDE || t.getKind() == Tree.Kind.REMAINDER;
            must("7", !divides || isConstant(t.getRightOperand()), "only by a constant is divided: " + t);
            boolean adds = t.getKind() == Tree.Kind.PLUS;
            must("10", !adds || !isText(t.getLeftOperand()) && !isText(t.getRightOperand()), "no texts are joined by +: " + t);
            boolean compares = t.getKind() == Tree.Kind.EQUAL_TO || t.getKind() == Tree.Kind.NOT_EQUAL_TO;
            must("6", !compares || !isText(t.getLeftOperand()) && !isText(t.getRightOperand()), "no texts are compared by ==: " + t);
            return super.visitBinary(t, v);
        }

        private boolean isConstant(ExpressionTree t) {
            Element e = element(t);
            return t.getKind() == Tree.Kind.INT_LITERAL || e != null && e.getModifiers().containsAll(Set.of(Modifier.STATIC, Modifier.FINAL));
        }

        private boolean isText(ExpressionTree t) {
            return trees.getTypeMirror(new TreePath(getCurrentPath(), t)).toString().equals("java.lang.String");
        }

        /** One of the parts that are joined by && must compare with a bound. */
        private void ends(ExpressionTree condition) {
            must("9", condition != null && condition.toString().matches(".*(<|>|<=|>=).*"), "the loop has a bound: " + condition);
        }

        @Override
        public Void visitForLoop(ForLoopTree t, Void v) {
            ends(t.getCondition());
            return super.visitForLoop(t, v);
        }

        @Override
        public Void visitWhileLoop(WhileLoopTree t, Void v) {
            ends(t.getCondition());
            return super.visitWhileLoop(t, v);
        }

        @Override
        public Void visitDoWhileLoop(DoWhileLoopTree t, Void v) {
            ends(t.getCondition());
            return super.visitDoWhileLoop(t, v);
        }

        @Override
        public Void visitThrow(ThrowTree t, Void v) {
            must("6", false, "nothing is thrown: " + t);
            return super.visitThrow(t, v);
        }

        @Override
        public Void visitTry(TryTree t, Void v) {
            must("6", false, "nothing is caught: " + t);
            return super.visitTry(t, v);
        }

        @Override
        public Void visitSynchronized(SynchronizedTree t, Void v) {
            must("6", false, "nothing is synchronized: " + t);
            return super.visitSynchronized(t, v);
        }

        @Override
        public Void visitAssert(AssertTree t, Void v) {
            must("6", false, "nothing is asserted: " + t);
            return super.visitAssert(t, v);
        }

        @Override
        public Void visitLambdaExpression(LambdaExpressionTree t, Void v) {
            must("2", false, "no lambda: " + t);
            return super.visitLambdaExpression(t, v);
        }

        @Override
        public Void visitMemberReference(MemberReferenceTree t, Void v) {
            must("2", false, "no method reference: " + t);
            return super.visitMemberReference(t, v);
        }
    }

    /** How deep calls go; one that is open already is a recursion, and is not gone into again. */
    private static final class Calls {
        final Map<String, Set<String>> calls;
        final Set<String> open = new TreeSet<>();
        final Set<String> recursive = new TreeSet<>();

        Calls(Map<String, Set<String>> calls) {
            this.calls = calls;
        }

        void look(Set<String> from) {
            must("11", from.size() > 20, "there is a face");
            for (String name : from) {
                int deep = depth(name);
                must("11", deep <= DEEPEST, name + " goes no deeper than " + DEEPEST + ": " + deep);
            }
            must("8", recursive.equals(Set.of("NextDoor.areMended", "NextDoor.Search.goOn")), "those recur that have a guard: " + recursive);
        }

        private int depth(String name) {
            if (open.contains(name)) {
                recursive.add(name);
                return 0;
            }
            open.add(name);
            int deepest = 0;
            for (String next : calls.getOrDefault(name, Set.of())) {
                deepest = Math.max(deepest, depth(next));
            }
            open.remove(name);
            return deepest + 1;
        }
    }
}

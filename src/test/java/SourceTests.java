import com.sun.source.tree.AnnotationTree;
import com.sun.source.tree.AssertTree;
import com.sun.source.tree.BinaryTree;
import com.sun.source.tree.BlockTree;
import com.sun.source.tree.ClassTree;
import com.sun.source.tree.CompilationUnitTree;
import com.sun.source.tree.CompoundAssignmentTree;
import com.sun.source.tree.DoWhileLoopTree;
import com.sun.source.tree.ForLoopTree;
import com.sun.source.tree.LambdaExpressionTree;
import com.sun.source.tree.LiteralTree;
import com.sun.source.tree.MemberReferenceTree;
import com.sun.source.tree.MethodInvocationTree;
import com.sun.source.tree.MethodTree;
import com.sun.source.tree.NewArrayTree;
import com.sun.source.tree.NewClassTree;
import com.sun.source.tree.SynchronizedTree;
import com.sun.source.tree.ThrowTree;
import com.sun.source.tree.Tree;
import com.sun.source.tree.TryTree;
import com.sun.source.tree.VariableTree;
import com.sun.source.tree.WhileLoopTree;
import com.sun.source.util.JavacTask;
import com.sun.source.util.SourcePositions;
import com.sun.source.util.TreePathScanner;
import com.sun.source.util.Trees;
import java.io.IOException;
import java.net.URI;
import java.nio.file.Files;
import java.nio.file.Path;
import java.util.ArrayList;
import java.util.HashSet;
import java.util.LinkedHashMap;
import java.util.LinkedHashSet;
import java.util.List;
import java.util.Map;
import java.util.Set;
import javax.lang.model.element.Element;
import javax.lang.model.element.ElementKind;
import javax.lang.model.element.ExecutableElement;
import javax.lang.model.element.Modifier;
import javax.lang.model.element.TypeElement;
import javax.lang.model.element.VariableElement;
import javax.lang.model.type.ArrayType;
import javax.lang.model.type.DeclaredType;
import javax.lang.model.type.TypeKind;
import javax.lang.model.type.TypeMirror;
import javax.tools.JavaFileObject;
import javax.tools.SimpleJavaFileObject;
import javax.tools.ToolProvider;

/**
 * The rules of ../shared/LANGUAGE.md that can be seen from the parsed program: the compiler's own tree of
 * it is read. The program's path is the one argument. Small programs that break one rule each show that
 * this reading would see it.
 */
public final class SourceTests {
    private static final int MOST_PARAMETERS = 7;
    private static final int MOST_LINES = 60;
    private static final int DEEPEST_CALL = 8;
    private static final int MOST_CLASSES = 12;
    private static final int MOST_FIELDS = 20;
    /** Of the library that rule 4 lists, what the program uses; whoever needs more adds it from there. */
    private static final Set<String> LIBRARY = Set.of("java.lang.String.length", "java.lang.String.charAt",
        "java.lang.Math.max", "java.lang.System.arraycopy", "java.lang.Object.<init>");

    private static int wrong = 0;

    public static void main(String[] arguments) throws IOException {
        for (String fault : faultsOf(Files.readString(Path.of(arguments[0])))) {
            wrong++;
            System.out.println(fault);
        }
        for (String[] broken : BROKEN) {
            expectFault(broken[0], broken[1]);
        }
        System.out.println(wrong == 0 ? "the source keeps the rules" : wrong + " rules are broken");
        if (wrong != 0) {
            System.exit(1);
        }
    }

    private static void expectFault(String rule, String members) throws IOException {
        Set<String> faults = faultsOf("public final class LinearizabilityChecker { " + members + " }");
        if (faults.size() != 1 || !faults.iterator().next().startsWith("rule " + rule + ",")) {
            wrong++;
            System.out.println("due is one fault of rule " + rule + ", seen are " + faults + " in " + members);
        }
    }

    private static Set<String> faultsOf(String source) throws IOException {
        JavaFileObject file = new SimpleJavaFileObject(URI.create("string:///LinearizabilityChecker.java"),
                JavaFileObject.Kind.SOURCE) {
            @Override
            public CharSequence getCharContent(boolean ignored) {
                return source;
            }
        };
        JavacTask task = (JavacTask) ToolProvider.getSystemJavaCompiler().getTask(null, null, null,
            List.of("-proc:none", "--release", "17"), null, List.of(file));
        CompilationUnitTree unit = task.parse().iterator().next();
        task.analyze();
        Reader reader = new Reader(Trees.instance(task), unit);
        reader.scan(unit, null);
        reader.lookAtCalls();
        return reader.faults;
    }

    private static final class Reader extends TreePathScanner<Void, Void> {
        final Trees trees;
        final CompilationUnitTree unit;
        final Set<String> faults = new LinkedHashSet<>();
        final Map<Element, Set<Element>> calls = new LinkedHashMap<>();
        Element method;
        int classes = 0;

        Reader(Trees trees, CompilationUnitTree unit) {
            this.trees = trees;
            this.unit = unit;
            if (unit.getPackage() != null || !unit.getImports().isEmpty() || unit.getTypeDecls().size() != 1) {
                fault(4, unit, "a package, an import or a second class beside the first");
            }
        }

        void fault(int rule, Tree tree, String what) {
            long start = trees.getSourcePositions().getStartPosition(unit, tree);
            faults.add("rule " + rule + ", line " + unit.getLineMap().getLineNumber(Math.max(0, start)) + ": " + what);
        }

        Element element() {
            return trees.getElement(getCurrentPath());
        }

        TypeMirror typeOf(Tree tree) {
            return trees.getTypeMirror(trees.getPath(unit, tree));
        }

        // Rules 1, 2, 5 and 11: classes and their members

        @Override
        public Void visitClass(ClassTree tree, Void ignored) {
            classes++;
            boolean outermost = getCurrentPath().getParentPath().getLeaf() == unit;
            boolean inside = getCurrentPath().getParentPath().getLeaf() instanceof ClassTree;
            Set<Modifier> modifiers = element().getModifiers();
            if (!outermost && (!inside || !modifiers.contains(Modifier.STATIC))) {
                fault(2, tree, "a class that is local, without a name or not static");
            }
            if (!outermost && (modifiers.contains(Modifier.PUBLIC) || modifiers.contains(Modifier.PROTECTED))) {
                fault(1, tree, "a class inside that is public or protected");
            }
            int fields = 0;
            for (Tree member : tree.getMembers()) {
                if (member instanceof BlockTree block) {
                    fault(block.isStatic() ? 5 : 2, block, "a block outside the methods");
                } else if (member instanceof VariableTree field && !isConstant(field)) {
                    fields++;
                }
            }
            if (fields > MOST_FIELDS || classes > MOST_CLASSES) {
                fault(11, tree, fields + " fields, class number " + classes);
            }
            return super.visitClass(tree, null);
        }

        private static boolean isConstant(VariableTree field) {
            return field.getModifiers().getFlags().contains(Modifier.STATIC);
        }

        @Override
        public Void visitVariable(VariableTree tree, Void ignored) {
            VariableElement variable = (VariableElement) element();
            if (variable.getKind().isField() && isConstant(tree)) {
                if (!variable.getModifiers().contains(Modifier.FINAL) || variable.getConstantValue() == null) {
                    fault(5, tree, "a static field that is no constant");
                }
            } else if (variable.getKind() == ElementKind.FIELD) {
                boolean ofTheFace = variable.getEnclosingElement().getEnclosingElement().getKind() == ElementKind.PACKAGE;
                if (ofTheFace && !variable.getModifiers().contains(Modifier.PRIVATE)) {
                    fault(1, tree, "a field of the class that is seen outside");
                }
            }
            allow(variable.asType(), tree);
            return super.visitVariable(tree, null);
        }

        // Rule 3: types

        private void allow(TypeMirror type, Tree tree) {
            boolean good = switch (type.getKind()) {
                case ARRAY -> isGoodArray((ArrayType) type);
                case DECLARED -> isOwn(type) || type.toString().equals("java.lang.String");
                default -> type.getKind().isPrimitive() || type.getKind() == TypeKind.VOID;
            };
            if (!good) {
                fault(3, tree, "the type " + type);
            }
        }

        private boolean isGoodArray(ArrayType array) {
            TypeMirror inner = array.getComponentType();
            if (inner.getKind() == TypeKind.ARRAY) {
                return ((ArrayType) inner).getComponentType().getKind().isPrimitive();
            }
            return inner.getKind().isPrimitive() || isOwn(inner);
        }

        private boolean isOwn(TypeMirror type) {
            return type.getKind() == TypeKind.DECLARED && isOwn(((DeclaredType) type).asElement());
        }

        private boolean isOwn(Element element) {
            Element outer = element;
            while (outer.getEnclosingElement() != null && outer.getEnclosingElement().getKind() != ElementKind.PACKAGE) {
                outer = outer.getEnclosingElement();
            }
            return outer.getSimpleName().contentEquals("LinearizabilityChecker");
        }

        // Rules 4, 8 and 11: methods and their calls

        @Override
        public Void visitMethod(MethodTree tree, Void ignored) {
            Element before = method;
            method = element();
            calls.put(method, new LinkedHashSet<>());
            if (tree.getParameters().size() > MOST_PARAMETERS) {
                fault(11, tree, tree.getParameters().size() + " parameters");
            }
            SourcePositions positions = trees.getSourcePositions();
            long first = unit.getLineMap().getLineNumber(Math.max(0, positions.getStartPosition(unit, tree)));
            long last = unit.getLineMap().getLineNumber(Math.max(0, positions.getEndPosition(unit, tree)));
            if (last - first >= MOST_LINES) {
                fault(11, tree, "a method of " + (last - first + 1) + " lines");
            }
            if (!tree.getThrows().isEmpty()) {
                fault(6, tree, "throws");
            }
            allow(((ExecutableElement) method).getReturnType(), tree);
            super.visitMethod(tree, null);
            method = before;
            return null;
        }

        @Override
        public Void visitMethodInvocation(MethodInvocationTree tree, Void ignored) {
            noteCall(element(), tree);
            return super.visitMethodInvocation(tree, null);
        }

        @Override
        public Void visitNewClass(NewClassTree tree, Void ignored) {
            noteCall(element(), tree);
            noteMaking(tree);
            return super.visitNewClass(tree, null);
        }

        @Override
        public Void visitNewArray(NewArrayTree tree, Void ignored) {
            noteMaking(tree);
            return super.visitNewArray(tree, null);
        }

        private void noteCall(Element called, Tree tree) {
            String name = called.getEnclosingElement() + "." + called.getSimpleName();
            if (!isOwn(called) && !LIBRARY.contains(name)) {
                fault(4, tree, "a call of " + name);
            }
            if (method != null) {
                calls.get(method).add(called);
            }
        }

        /** Rule 12 counts what calls make: here, nothing is made but by constructors. */
        private void noteMaking(Tree tree) {
            if (method != null && method.getKind() != ElementKind.CONSTRUCTOR) {
                fault(12, tree, "an object or array that is not made in a constructor");
            }
        }

        void lookAtCalls() {
            for (Element start : calls.keySet()) {
                int depth = depthBelow(start, new HashSet<>());
                boolean round = reaches(start, start, new HashSet<>());
                if (round && !start.getModifiers().contains(Modifier.PRIVATE)) {
                    fault(8, trees.getTree(start), "recursion of a method that is not private: " + start);
                }
                if (!round && depth > DEEPEST_CALL) {
                    fault(11, trees.getTree(start), start + " and what it calls stand " + depth + " deep");
                }
            }
        }

        /** The most methods that stand open at once, each of them once, with the start among them. */
        private int depthBelow(Element start, Set<Element> open) {
            int deepest = 0;
            open.add(start);
            for (Element called : calls.getOrDefault(start, Set.of())) {
                if (!open.contains(called)) {
                    deepest = Math.max(deepest, depthBelow(called, open));
                }
            }
            open.remove(start);
            return deepest + 1;
        }

        private boolean reaches(Element from, Element target, Set<Element> seen) {
            for (Element called : calls.getOrDefault(from, Set.of())) {
                if (called.equals(target) || seen.add(called) && reaches(called, target, seen)) {
                    return true;
                }
            }
            return false;
        }

        // Rules 2 and 6: what does not stand in the program at all

        @Override
        public Void visitLambdaExpression(LambdaExpressionTree tree, Void ignored) {
            fault(2, tree, "a lambda");
            return null;
        }

        @Override
        public Void visitMemberReference(MemberReferenceTree tree, Void ignored) {
            fault(2, tree, "a method reference");
            return null;
        }

        @Override
        public Void visitThrow(ThrowTree tree, Void ignored) {
            fault(6, tree, "throw");
            return null;
        }

        @Override
        public Void visitTry(TryTree tree, Void ignored) {
            fault(6, tree, "try");
            return null;
        }

        @Override
        public Void visitSynchronized(SynchronizedTree tree, Void ignored) {
            fault(6, tree, "synchronized");
            return null;
        }

        @Override
        public Void visitAssert(AssertTree tree, Void ignored) {
            fault(6, tree, "assert");
            return null;
        }

        @Override
        public Void visitAnnotation(AnnotationTree tree, Void ignored) {
            fault(4, tree, "an annotation");
            return null;
        }

        @Override
        public Void visitBinary(BinaryTree tree, Void ignored) {
            TypeMirror left = typeOf(tree.getLeftOperand());
            TypeMirror right = typeOf(tree.getRightOperand());
            boolean texts = isText(left) || isText(right);
            if (texts && tree.getKind() == Tree.Kind.PLUS) {
                fault(10, tree, "a text joined by +");
            } else if (texts) {
                fault(6, tree, "two texts compared by a sign");
            }
            if (tree.getKind() == Tree.Kind.DIVIDE || tree.getKind() == Tree.Kind.REMAINDER) {
                testedDivisor(tree, tree.getRightOperand());
            }
            return super.visitBinary(tree, null);
        }

        @Override
        public Void visitCompoundAssignment(CompoundAssignmentTree tree, Void ignored) {
            if (isText(typeOf(tree.getVariable()))) {
                fault(10, tree, "a text joined by +=");
            }
            return super.visitCompoundAssignment(tree, null);
        }

        private static boolean isText(TypeMirror type) {
            return type != null && type.toString().equals("java.lang.String");
        }

        // Rules 7 and 9: divisors and the ends of loops

        private void testedDivisor(Tree tree, Tree divisor) {
            if (!(divisor instanceof LiteralTree literal) || literal.getValue().equals(0)) {
                fault(7, tree, "a division by what is no number but 0");
            }
        }

        @Override
        public Void visitForLoop(ForLoopTree tree, Void ignored) {
            if (tree.getCondition() == null || tree.getUpdate().isEmpty()) {
                fault(9, tree, "a loop without a bound or a step");
            }
            return super.visitForLoop(tree, null);
        }

        @Override
        public Void visitWhileLoop(WhileLoopTree tree, Void ignored) {
            if (!counts(tree.getCondition(), tree.getStatement())) {
                fault(9, tree, "a loop that steps no number of its condition");
            }
            return super.visitWhileLoop(tree, null);
        }

        @Override
        public Void visitDoWhileLoop(DoWhileLoopTree tree, Void ignored) {
            if (!counts(tree.getCondition(), tree.getStatement())) {
                fault(9, tree, "a loop that steps no number of its condition");
            }
            return super.visitDoWhileLoop(tree, null);
        }

        /** Whether a number that the condition compares by &lt; goes up by one in the loop. */
        private boolean counts(Tree condition, Tree body) {
            List<String> compared = new ArrayList<>();
            new com.sun.source.util.TreeScanner<Void, Void>() {
                @Override
                public Void visitBinary(BinaryTree tree, Void ignored) {
                    if (tree.getKind() == Tree.Kind.LESS_THAN) {
                        compared.add(tree.getLeftOperand().toString());
                    }
                    return super.visitBinary(tree, null);
                }
            }.scan(condition, null);
            return compared.stream().anyMatch(name -> body.toString().contains(name + "++;"));
        }
    }

    /** Programs of a few members, each behind the rule that it breaks. */
    private static final String[][] BROKEN = {
        {"1", "int seen;"},
        {"1", "public static class Inside { }"},
        {"2", "private class Inside { }"},
        {"2", "private interface I { int f(); } private int g() { I i = () -> 1; return i.f(); }"},
        {"2", "private int value; { value = 1; }"},
        {"3", "private int f(Object x) { return 0; }"},
        {"3", "private long[][][] rows;"},
        {"3", "private String[] names;"},
        {"3", "private Integer f() { return null; }"},
        {"4", "private int f() { return Math.addExact(1, 2); }"},
        {"4", "private long f() { return System.nanoTime(); }"},
        {"4", "@Deprecated private int f() { return 0; }"},
        {"5", "private static int state = 0;"},
        {"5", "private static final int[] ROWS = new int[2];"},
        {"5", "private static final int ONE = 1; static { f(); } private static void f() { }"},
        {"6", "private void f() { throw null; }"},
        {"6", "private int f() { try { return 1; } finally { f(2); } } private void f(int x) { }"},
        {"6", "private void f() { assert true; }"},
        {"6", "private void f() { synchronized (this) { } }"},
        {"6", "private void f() throws RuntimeException { }"},
        {"6", "private boolean f(String a, String b) { return a == b; }"},
        {"7", "private int f(int a, int b) { return a / b; }"},
        {"7", "private int f(int a, int b) { return a % b; }"},
        {"8", "public int f(int n) { return n < 1 ? 0 : f(n - 1); }"},
        {"9", "private void f() { for (;;) { g(); } } private void g() { }"},
        {"9", "private void f(boolean b) { while (b) { g(); } } private void g() { }"},
        {"9", "private void f(int n) { do { n--; } while (n != 0); }"},
        {"10", "private String f(String s, int n) { return s + n; }"},
        {"10", "private String f(String s) { s += \"a\"; return s; }"},
        {"11", "private int f(int a, int b, int c, int d, int e, int g, int h, int i) { return a; }"},
        {"11", "private void f() {" + "\n;".repeat(MOST_LINES) + "}"},
        {"11", "void a() { b(); } private void b() { c(); } private void c() { d(); } private void d() { e(); } "
            + "private void e() { f(); } private void f() { g(); } private void g() { h(); } private void h() { i(); } "
            + "private void i() { }"},
        {"11", "private int a, b, c, d, e, f, g, h, i, j, k, l, m, n, o, p, q, r, s, t, u;"},
        {"12", "private int f() { int[] row = new int[2]; return row.length; }"},
        {"12", "private static final class Inside { } private void f() { Inside i = new Inside(); }"},
    };
}

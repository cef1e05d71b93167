import com.sun.source.tree.AssertTree;
import com.sun.source.tree.BlockTree;
import com.sun.source.tree.ClassTree;
import com.sun.source.tree.CompilationUnitTree;
import com.sun.source.tree.DoWhileLoopTree;
import com.sun.source.tree.ExpressionTree;
import com.sun.source.tree.ForLoopTree;
import com.sun.source.tree.ImportTree;
import com.sun.source.tree.LambdaExpressionTree;
import com.sun.source.tree.LiteralTree;
import com.sun.source.tree.MemberReferenceTree;
import com.sun.source.tree.MethodInvocationTree;
import com.sun.source.tree.MethodTree;
import com.sun.source.tree.NewArrayTree;
import com.sun.source.tree.NewClassTree;
import com.sun.source.tree.SynchronizedTree;
import com.sun.source.tree.ThrowTree;
import com.sun.source.tree.Tree;
import com.sun.source.tree.TryTree;
import com.sun.source.tree.VariableTree;
import com.sun.source.tree.WhileLoopTree;
import com.sun.source.util.JavacTask;
import com.sun.source.util.SourcePositions;
import com.sun.source.util.TreePathScanner;
import com.sun.source.util.Trees;
import java.io.IOException;
import java.nio.file.Files;
import java.nio.file.Path;
import java.util.ArrayList;
import java.util.HashSet;
import java.util.LinkedHashMap;
import java.util.LinkedHashSet;
import java.util.List;
import java.util.Map;
import java.util.Set;
import javax.lang.model.element.Element;
import javax.lang.model.element.ElementKind;
import javax.lang.model.element.Modifier;
import javax.tools.JavaCompiler;
import javax.tools.StandardJavaFileManager;
import javax.tools.ToolProvider;

/**
 * The source keeps to LANGUAGE.md, as far as its tree shows it; the rule's number stands before what is found. It is
 * stricter than the rules in places (no try, no while, no new object in a loop): the class needs none of these.
 */
public final class LanguageTest {
    private static final Path SOURCE = Path.of("src", "main", "java", "CarSteps.java");
    private static final Set<String> TYPES = Set.of("int", "long", "short", "byte", "char", "boolean", "void", "String",
        "int[]", "long[]", "char[]", "byte[]", "boolean[]");
    private static final Set<String> CONSTANT_TYPES = Set.of("int", "long", "boolean", "char", "String", "int[]",
        "long[]", "char[]", "byte[]");
    private static final Set<String> LIBRARY = Set.of("Math.abs", "Math.max", "Math.min", "Integer.compare");
    private static final Set<String> EXCEPTIONS = Set.of("IllegalStateException", "IllegalArgumentException",
        "IndexOutOfBoundsException", "ArithmeticException", "UnsupportedOperationException", "NoSuchElementException",
        "RuntimeException");
    private static final Check CHECK = new Check();

    public static void main(String[] args) throws IOException {
        JavaCompiler compiler = ToolProvider.getSystemJavaCompiler();
        StandardJavaFileManager files = compiler.getStandardFileManager(null, null, null);
        JavacTask task = (JavacTask) compiler.getTask(null, files, null, List.of("-proc:none"), null,
            files.getJavaFileObjects(SOURCE));
        CompilationUnitTree unit = task.parse().iterator().next();
        task.analyze();
        Reader reader = new Reader(unit, Trees.instance(task));
        reader.scan(unit, null);
        CHECK.is("3: characters above 255", Files.readString(SOURCE).chars().anyMatch(c -> c > 255), false);
        CHECK.is("one file, one class", unit.getTypeDecls().size(), 1);
        CHECK.is("without a package", unit.getPackageName() == null, true);
        CHECK.is("11: some twelve classes", reader.classes.size() <= 12, true);
        namesOfPrivateMethods(reader);
        CHECK.is("8: recursion, or 11: calls more than eight deep", deepest(reader.calls) <= 8, true);
        CHECK.is("methods were read", reader.calls.size() > 40, true);
        CHECK.end();
    }

    private static void namesOfPrivateMethods(Reader reader) {
        for (String name : reader.privateNames) {
            CHECK.is("1: a private method bears the name " + name, reader.publicNames.contains(name), false);
        }
    }

    private static int deepest(Map<Element, Set<Element>> calls) {
        int deepest = 0;
        for (Element method : calls.keySet()) {
            deepest = Math.max(deepest, depth(method, calls, new HashSet<>()));
        }
        return deepest;
    }

    /** How many calls stand open at most; a method that comes again counts as too deep. */
    private static int depth(Element method, Map<Element, Set<Element>> calls, Set<Element> open) {
        if (!open.add(method)) {
            return 1000;
        }
        int deepest = 0;
        for (Element called : calls.getOrDefault(method, Set.of())) {
            deepest = Math.max(deepest, depth(called, calls, open));
        }
        open.remove(method);
        return deepest + 1;
    }

    /** Walks over the source once and checks what it meets. */
    private static final class Reader extends TreePathScanner<Void, Void> {
        final Set<String> classes = new LinkedHashSet<>();
        final Set<String> publicNames = new LinkedHashSet<>();
        final List<String> privateNames = new ArrayList<>();
        final Map<Element, Set<Element>> calls = new LinkedHashMap<>();
        private final CompilationUnitTree unit;
        private final Trees trees;
        private Element method;
        private int loops;

        Reader(CompilationUnitTree unit, Trees trees) {
            this.unit = unit;
            this.trees = trees;
            ClassTree face = (ClassTree) unit.getTypeDecls().get(0);
            for (Tree member : face.getMembers()) {
                if (member instanceof ClassTree inside) {
                    classes.add(inside.getSimpleName().toString());
                }
            }
            classes.add(face.getSimpleName().toString());
        }

        private long line(long position) {
            return unit.getLineMap().getLineNumber(position);
        }

        private String at(Tree tree) {
            return " in line " + line(trees.getSourcePositions().getStartPosition(unit, tree));
        }

        private void outside(int rule, String what, Tree tree) {
            CHECK.fault(rule + ": " + what + at(tree));
        }

        @Override
        public Void visitImport(ImportTree tree, Void none) {
            outside(4, "an import", tree);
            return null;
        }

        @Override
        public Void visitClass(ClassTree tree, Void none) {
            Set<Modifier> flags = tree.getModifiers().getFlags();
            boolean isFace = getCurrentPath().getParentPath().getLeaf() == unit;
            CHECK.is("2: a class inside a method" + at(tree), classes.contains(tree.getSimpleName().toString()), true);
            CHECK.is("1: static inside" + at(tree), isFace || flags.contains(Modifier.STATIC), true);
            CHECK.is("1: not open" + at(tree), isFace || !flags.contains(Modifier.PUBLIC), true);
            int fields = 0;
            for (Tree member : tree.getMembers()) {
                if (member instanceof VariableTree field && !isStatic(field)) {
                    fields++;
                }
                CHECK.is("5: static initialiser" + at(member), member instanceof BlockTree, false);
            }
            CHECK.is("11: some twenty fields" + at(tree), fields <= 20, true);
            return super.visitClass(tree, none);
        }

        private static boolean isStatic(VariableTree field) {
            return field.getModifiers().getFlags().contains(Modifier.STATIC);
        }

        @Override
        public Void visitVariable(VariableTree tree, Void none) {
            String type = String.valueOf(tree.getType());
            CHECK.is("3: type " + type + at(tree), TYPES.contains(type) || classes.contains(type), true);
            if (isStatic(tree)) {
                CHECK.is("5: final" + at(tree), tree.getModifiers().getFlags().contains(Modifier.FINAL), true);
                CHECK.is("5: type " + type + at(tree), CONSTANT_TYPES.contains(type), true);
            }
            return super.visitVariable(tree, none);
        }

        @Override
        public Void visitMethod(MethodTree tree, Void none) {
            Set<Modifier> flags = tree.getModifiers().getFlags();
            if (flags.contains(Modifier.PUBLIC)) {
                publicNames.add(tree.getName().toString());
            } else if (tree.getReturnType() != null) {
                privateNames.add(tree.getName().toString());
            }
            SourcePositions where = trees.getSourcePositions();
            long lines = line(where.getEndPosition(unit, tree)) - line(where.getStartPosition(unit, tree)) + 1;
            CHECK.is("11: at most seven parameters" + at(tree), tree.getParameters().size() <= 7, true);
            CHECK.is("11: some sixty lines" + at(tree), lines <= 60, true);
            Element before = method;
            method = trees.getElement(getCurrentPath());
            calls.putIfAbsent(method, new LinkedHashSet<>());
            super.visitMethod(tree, none);
            method = before;
            return null;
        }

        @Override
        public Void visitMethodInvocation(MethodInvocationTree tree, Void none) {
            Element called = trees.getElement(getCurrentPath());
            String owner = called.getEnclosingElement().getSimpleName().toString();
            if (!classes.contains(owner) && called.getKind() == ElementKind.METHOD) {
                String name = owner + "." + called.getSimpleName();
                CHECK.is("4: the library's " + name + at(tree), LIBRARY.contains(name), true);
            } else if (method != null && called.getKind() == ElementKind.METHOD) {
                calls.get(method).add(called);
            }
            return super.visitMethodInvocation(tree, none);
        }

        @Override
        public Void visitThrow(ThrowTree tree, Void none) {
            CHECK.is("6: throw in a constructor" + at(tree), method.getKind() == ElementKind.CONSTRUCTOR, false);
            if (tree.getExpression() instanceof NewClassTree made) {
                CHECK.is("6: what is thrown" + at(tree), EXCEPTIONS.contains(made.getIdentifier().toString()), true);
                for (ExpressionTree text : made.getArguments()) {
                    CHECK.is("6: a written text" + at(tree), text instanceof LiteralTree, true);
                }
            } else {
                outside(6, "throw without new", tree);
            }
            return super.visitThrow(tree, none);
        }

        @Override
        public Void visitForLoop(ForLoopTree tree, Void none) {
            CHECK.is("9: an end to be seen" + at(tree), tree.getCondition() != null && !tree.getUpdate().isEmpty(), true);
            loops++;
            super.visitForLoop(tree, none);
            loops--;
            return null;
        }

        @Override
        public Void visitNewClass(NewClassTree tree, Void none) {
            CHECK.is("12: an object made in a loop" + at(tree), loops, 0);
            CHECK.is("2: an anonymous class" + at(tree), tree.getClassBody() == null, true);
            return super.visitNewClass(tree, none);
        }

        @Override
        public Void visitNewArray(NewArrayTree tree, Void none) {
            CHECK.is("12: an array made in a loop" + at(tree), loops, 0);
            return super.visitNewArray(tree, none);
        }

        @Override
        public Void visitWhileLoop(WhileLoopTree tree, Void none) {
            outside(9, "while", tree);
            return super.visitWhileLoop(tree, none);
        }

        @Override
        public Void visitDoWhileLoop(DoWhileLoopTree tree, Void none) {
            outside(9, "do", tree);
            return super.visitDoWhileLoop(tree, none);
        }

        @Override
        public Void visitTry(TryTree tree, Void none) {
            outside(6, "try", tree);
            return super.visitTry(tree, none);
        }

        @Override
        public Void visitSynchronized(SynchronizedTree tree, Void none) {
            outside(6, "synchronized", tree);
            return super.visitSynchronized(tree, none);
        }

        @Override
        public Void visitAssert(AssertTree tree, Void none) {
            outside(6, "assert", tree);
            return super.visitAssert(tree, none);
        }

        @Override
        public Void visitLambdaExpression(LambdaExpressionTree tree, Void none) {
            outside(2, "a lambda", tree);
            return super.visitLambdaExpression(tree, none);
        }

        @Override
        public Void visitMemberReference(MemberReferenceTree tree, Void none) {
            outside(2, "a method reference", tree);
            return super.visitMemberReference(tree, none);
        }
    }

    private LanguageTest() {
    }
}

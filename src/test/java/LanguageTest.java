import com.sun.source.tree.AssertTree;
import com.sun.source.tree.BinaryTree;
import com.sun.source.tree.ClassTree;
import com.sun.source.tree.CompilationUnitTree;
import com.sun.source.tree.ExpressionTree;
import com.sun.source.tree.IdentifierTree;
import com.sun.source.tree.LambdaExpressionTree;
import com.sun.source.tree.MemberReferenceTree;
import com.sun.source.tree.MemberSelectTree;
import com.sun.source.tree.MethodInvocationTree;
import com.sun.source.tree.MethodTree;
import com.sun.source.tree.NewClassTree;
import com.sun.source.tree.SynchronizedTree;
import com.sun.source.tree.ThrowTree;
import com.sun.source.tree.Tree;
import com.sun.source.tree.TryTree;
import com.sun.source.tree.TypeCastTree;
import com.sun.source.tree.VariableTree;
import com.sun.source.util.JavacTask;
import com.sun.source.util.TreePathScanner;
import com.sun.source.util.Trees;
import java.nio.charset.StandardCharsets;
import java.nio.file.Files;
import java.nio.file.Path;
import java.util.ArrayList;
import java.util.HashMap;
import java.util.LinkedHashSet;
import java.util.List;
import java.util.Map;
import java.util.Set;
import javax.lang.model.element.Element;
import javax.lang.model.element.ElementKind;
import javax.lang.model.element.Modifier;
import javax.lang.model.element.VariableElement;
import javax.tools.JavaCompiler;
import javax.tools.StandardJavaFileManager;
import javax.tools.ToolProvider;

/** The rules of ../shared/LANGUAGE.md that can be seen in the source, by their numbers. */
public final class LanguageTest {
    private static final Path SOURCE = Path.of("src", "main", "java", "HexCampaign.java");
    private static final int MOST_CLASSES = 12;
    private static final int MOST_FIELDS = 20;
    private static final int MOST_LINES = 60;
    private static final int MOST_CALLS_DEEP = 8;
    /** What the program uses of the library of rule 4. */
    private static final Set<String> LIBRARY = Set.of("String.length", "String.charAt", "Integer.bitCount",
            "Math.max", "Math.min", "Math.abs");
    private static final Set<String> EXCEPTIONS = Set.of("IllegalStateException", "IllegalArgumentException",
            "IndexOutOfBoundsException", "ArithmeticException", "UnsupportedOperationException",
            "NoSuchElementException");

    public static void main(String[] args) throws Exception {
        String source = Files.readString(SOURCE, StandardCharsets.ISO_8859_1);
        Check.same("rule 4, the signs are 1 to 127", source.chars().allMatch(c -> c >= 1 && c <= 127), true);
        JavaCompiler compiler = ToolProvider.getSystemJavaCompiler();
        try (StandardJavaFileManager files = compiler.getStandardFileManager(null, null, null)) {
            JavacTask task = (JavacTask) compiler.getTask(null, files, null,
                    List.of("-proc:none"), null, files.getJavaFileObjects(SOURCE));
            CompilationUnitTree unit = task.parse().iterator().next();
            task.analyze();
            imports(unit);
            Rules rules = new Rules(Trees.instance(task), unit);
            rules.scan(unit, null);
            rules.end();
        }
        Check.end();
    }

    private static void imports(CompilationUnitTree unit) {
        Check.same("a package line", unit.getPackageName(), null);
        Check.same("rule 1, one class", unit.getTypeDecls().size(), 1);
        for (Tree line : unit.getImports()) {
            Check.same("rule 4", line.toString().trim(), "import java.util.NoSuchElementException;");
        }
    }

    private static final class Rules extends TreePathScanner<Void, Void> {
        private final Trees trees;
        private final CompilationUnitTree unit;
        private final Map<Element, Set<Element>> calls = new HashMap<>();
        private Element method;
        private int classes = 0;

        Rules(Trees trees, CompilationUnitTree unit) {
            this.trees = trees;
            this.unit = unit;
        }

        private void none(int rule, Tree tree) {
            long line = unit.getLineMap().getLineNumber(trees.getSourcePositions().getStartPosition(unit, tree));
            Check.same("rule " + rule + ", line " + line, tree.toString(), "nothing");
        }

        @Override
        public Void visitClass(ClassTree tree, Void nothing) {
            classes++;
            int fields = 0;
            for (Tree member : tree.getMembers()) {
                if (member instanceof VariableTree field
                        && !field.getModifiers().getFlags().contains(Modifier.STATIC)) {
                    fields++;
                }
                if (member.getKind() == Tree.Kind.BLOCK) {
                    none(5, member);
                }
            }
            Check.same("rule 11, fields of " + tree.getSimpleName(), fields <= MOST_FIELDS, true);
            Check.same("rule 2, " + tree.getSimpleName() + " is no local class", method, null);
            return super.visitClass(tree, nothing);
        }

        @Override
        public Void visitMethod(MethodTree tree, Void nothing) {
            long lines = tree.toString().lines().count();
            Check.same("rule 11, lines of " + tree.getName(), lines <= MOST_LINES, true);
            method = trees.getElement(getCurrentPath());
            calls.put(method, new LinkedHashSet<>());
            super.visitMethod(tree, nothing);
            method = null;
            return null;
        }

        @Override
        public Void visitMethodInvocation(MethodInvocationTree tree, Void nothing) {
            called(trees.getElement(trees.getPath(unit, tree.getMethodSelect())), tree);
            return super.visitMethodInvocation(tree, nothing);
        }

        @Override
        public Void visitNewClass(NewClassTree tree, Void nothing) {
            if (getCurrentPath().getParentPath().getLeaf().getKind() != Tree.Kind.THROW) {
                called(trees.getElement(getCurrentPath()), tree);
            }
            return super.visitNewClass(tree, nothing);
        }

        private void called(Element to, Tree tree) {
            String owner = to.getEnclosingElement().getSimpleName().toString();
            boolean isOwn = to.toString().equals("super()") || trees.getPath(to) != null;
            if (isOwn && method != null) {
                calls.get(method).add(to);
            }
            boolean isSuper = to.getKind() == ElementKind.CONSTRUCTOR && owner.equals("Object");
            if (!isOwn && !isSuper && !LIBRARY.contains(owner + "." + to.getSimpleName())) {
                none(4, tree);
            }
        }

        @Override
        public Void visitThrow(ThrowTree tree, Void nothing) {
            ExpressionTree thrown = tree.getExpression();
            boolean isPlain = thrown instanceof NewClassTree made && made.getArguments().isEmpty()
                    && EXCEPTIONS.contains(made.getIdentifier().toString());
            if (!isPlain || method.getKind() == ElementKind.CONSTRUCTOR) {
                none(6, tree);
            }
            return super.visitThrow(tree, nothing);
        }

        /** The program catches nothing at all. */
        @Override
        public Void visitTry(TryTree tree, Void nothing) {
            none(6, tree);
            return super.visitTry(tree, nothing);
        }

        @Override
        public Void visitSynchronized(SynchronizedTree tree, Void nothing) {
            none(6, tree);
            return super.visitSynchronized(tree, nothing);
        }

        @Override
        public Void visitAssert(AssertTree tree, Void nothing) {
            none(6, tree);
            return super.visitAssert(tree, nothing);
        }

        @Override
        public Void visitLambdaExpression(LambdaExpressionTree tree, Void nothing) {
            none(2, tree);
            return super.visitLambdaExpression(tree, nothing);
        }

        @Override
        public Void visitMemberReference(MemberReferenceTree tree, Void nothing) {
            none(2, tree);
            return super.visitMemberReference(tree, nothing);
        }

        /** The program casts nothing, so that no cast can fail. */
        @Override
        public Void visitTypeCast(TypeCastTree tree, Void nothing) {
            none(7, tree);
            return super.visitTypeCast(tree, nothing);
        }

        @Override
        public Void visitBinary(BinaryTree tree, Void nothing) {
            if (trees.getTypeMirror(getCurrentPath()).toString().equals("java.lang.String")) {
                none(10, tree);
            }
            boolean isDivision = tree.getKind() == Tree.Kind.DIVIDE || tree.getKind() == Tree.Kind.REMAINDER;
            if (isDivision && !isSafeDivisor(tree.getRightOperand())) {
                none(7, tree);
            }
            return super.visitBinary(tree, nothing);
        }

        /** A number other than 0, a constant, or a double, which balance() looks at before. */
        private boolean isSafeDivisor(ExpressionTree divisor) {
            boolean isNamed = divisor instanceof IdentifierTree || divisor instanceof MemberSelectTree;
            if (!isNamed) {
                return divisor.getKind() == Tree.Kind.INT_LITERAL && !divisor.toString().equals("0");
            }
            Element named = trees.getElement(trees.getPath(unit, divisor));
            boolean isConstant = named instanceof VariableElement constant
                    && constant.getConstantValue() != null && !constant.getConstantValue().equals(0);
            return isConstant || named.asType().toString().equals("double");
        }

        void end() {
            Check.same("rule 11, classes", classes <= MOST_CLASSES, true);
            for (Element from : calls.keySet()) {
                List<String> chain = deepest(from, 1);
                Check.same("rule 11, the calls " + chain, chain.size() <= MOST_CALLS_DEEP, true);
            }
        }

        /** The longest chain of calls, up to the first one too many; so recursion is too deep as well. */
        private List<String> deepest(Element from, int depth) {
            List<String> longest = List.of();
            if (depth <= MOST_CALLS_DEEP) {
                for (Element to : calls.getOrDefault(from, Set.of())) {
                    List<String> chain = deepest(to, depth + 1);
                    longest = chain.size() > longest.size() ? chain : longest;
                }
            }
            List<String> whole = new ArrayList<>(List.of(from.getEnclosingElement() + "." + from));
            whole.addAll(longest);
            return whole;
        }
    }
}

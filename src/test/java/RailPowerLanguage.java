import com.sun.source.tree.ArrayAccessTree;
import com.sun.source.tree.AssignmentTree;
import com.sun.source.tree.BinaryTree;
import com.sun.source.tree.ClassTree;
import com.sun.source.tree.CompilationUnitTree;
import com.sun.source.tree.CompoundAssignmentTree;
import com.sun.source.tree.DoWhileLoopTree;
import com.sun.source.tree.ExpressionTree;
import com.sun.source.tree.ForLoopTree;
import com.sun.source.tree.LiteralTree;
import com.sun.source.tree.MethodInvocationTree;
import com.sun.source.tree.MethodTree;
import com.sun.source.tree.NewArrayTree;
import com.sun.source.tree.NewClassTree;
import com.sun.source.tree.Tree;
import com.sun.source.tree.UnaryTree;
import com.sun.source.tree.VariableTree;
import com.sun.source.tree.WhileLoopTree;
import com.sun.source.util.JavacTask;
import com.sun.source.util.TreePath;
import com.sun.source.util.TreePathScanner;
import com.sun.source.util.Trees;
import java.io.IOException;
import java.nio.charset.StandardCharsets;
import java.nio.file.Files;
import java.nio.file.Path;
import java.util.EnumSet;
import java.util.HashSet;
import java.util.List;
import java.util.Map;
import java.util.Set;
import java.util.TreeMap;
import java.util.TreeSet;
import javax.lang.model.element.Element;
import javax.lang.model.element.ElementKind;
import javax.lang.model.element.Modifier;
import javax.lang.model.element.TypeElement;
import javax.lang.model.type.ArrayType;
import javax.lang.model.type.TypeKind;
import javax.lang.model.type.TypeMirror;
import javax.tools.JavaCompiler;
import javax.tools.StandardJavaFileManager;
import javax.tools.ToolProvider;

/**
 * The source keeps to ../shared/LANGUAGE.md, as far as its tree shows it. Where the rules leave more
 * than the class uses (lists, texts, enums, objects made by any method), this test asks for the
 * lesser: widen it with the class.
 */
public final class RailPowerLanguage {
    private static final Path SOURCE = Path.of("src/main/java/RailPower.java");
    private static final int MOST_PARAMETERS = 7, MOST_LINES = 60, MOST_DEPTH = 8, MOST_CLASSES = 12, MOST_FIELDS = 20;
    private static final Set<Tree.Kind> NEVER = EnumSet.of(Tree.Kind.LAMBDA_EXPRESSION, Tree.Kind.MEMBER_REFERENCE,
            Tree.Kind.TRY, Tree.Kind.CATCH, Tree.Kind.THROW, Tree.Kind.SYNCHRONIZED, Tree.Kind.ASSERT, Tree.Kind.IMPORT,
            Tree.Kind.PACKAGE, Tree.Kind.ANNOTATION, Tree.Kind.DOUBLE_LITERAL, Tree.Kind.FLOAT_LITERAL,
            Tree.Kind.STRING_LITERAL, Tree.Kind.BINDING_PATTERN);
    private static final Set<Tree.Kind> COMPARING = EnumSet.of(Tree.Kind.LESS_THAN, Tree.Kind.LESS_THAN_EQUAL,
            Tree.Kind.GREATER_THAN, Tree.Kind.GREATER_THAN_EQUAL, Tree.Kind.NOT_EQUAL_TO, Tree.Kind.EQUAL_TO);
    private static final Set<String> LIBRARY = Set.of("java.lang.Math.max", "java.lang.Math.min", "java.lang.Math.abs",
            "java.lang.Object.<init>");

    private static int wrong = 0;

    public static void main(String[] args) throws IOException {
        String text = Files.readString(SOURCE);
        check(text.chars().allMatch(sign -> sign < 128), "3, 4: a sign beyond 127");
        JavaCompiler compiler = ToolProvider.getSystemJavaCompiler();
        try (StandardJavaFileManager files = compiler.getStandardFileManager(null, null, StandardCharsets.UTF_8)) {
            JavacTask task = (JavacTask) compiler.getTask(null, files, null, List.of("-proc:none"), null,
                    files.getJavaFileObjects(SOURCE));
            CompilationUnitTree unit = task.parse().iterator().next();
            task.analyze();
            Rules rules = new Rules(unit, Trees.instance(task));
            rules.scan(unit, null);
            rules.look();
        }
        System.out.println(wrong == 0 ? "the source keeps to LANGUAGE.md" : wrong + " faults");
        if (wrong != 0) {
            System.exit(1);
        }
    }

    private static void check(boolean holds, String what) {
        if (!holds) {
            wrong++;
            System.out.println(what);
        }
    }

    /** Goes through the tree once; what is known only at its end is looked at in look(). */
    private static final class Rules extends TreePathScanner<Void, Void> {
        private final CompilationUnitTree unit;
        private final Trees trees;
        private final Set<Element> fixedArrays = new HashSet<>();
        private final Map<String, Set<String>> calls = new TreeMap<>();
        private final Set<String> begins = new TreeSet<>();
        private int classes;

        Rules(CompilationUnitTree unit, Trees trees) {
            this.unit = unit;
            this.trees = trees;
        }

        void look() {
            check(classes <= MOST_CLASSES, "11: " + classes + " classes");
            for (String begin : begins) {
                int depth = depth(begin, new HashSet<>());
                check(depth <= MOST_DEPTH, "11: calls go " + depth + " deep from " + begin);
            }
        }

        private int depth(String from, Set<String> open) {
            if (!open.add(from)) {
                check(false, "8: recursion through " + from);
                return 0;
            }
            int deepest = 0;
            for (String next : calls.getOrDefault(from, Set.of())) {
                deepest = Math.max(deepest, depth(next, open));
            }
            open.remove(from);
            return deepest + 1;
        }

        private void wants(boolean holds, Tree tree, String what) {
            long line = unit.getLineMap().getLineNumber(trees.getSourcePositions().getStartPosition(unit, tree));
            check(holds, "line " + line + ": " + what);
        }

        private Element element() {
            return trees.getElement(getCurrentPath());
        }

        private Element elementOf(Tree tree) {
            return trees.getElement(TreePath.getPath(unit, tree));
        }

        private static String name(Element element) {
            return element.getEnclosingElement() + "." + element.getSimpleName();
        }

        /** The method or class around the present place. */
        private Tree around() {
            TreePath path = getCurrentPath().getParentPath();
            while (!(path.getLeaf() instanceof MethodTree) && !(path.getLeaf() instanceof ClassTree)) {
                path = path.getParentPath();
            }
            return path.getLeaf();
        }

        @Override
        public Void scan(Tree tree, Void nothing) {
            if (tree != null && NEVER.contains(tree.getKind())) {
                wants(false, tree, "not in the language: " + tree.getKind());
            }
            return super.scan(tree, nothing);
        }

        @Override
        public Void visitClass(ClassTree tree, Void nothing) {
            TypeElement type = (TypeElement) element();
            Tree outside = getCurrentPath().getParentPath().getLeaf();
            boolean isFace = outside == unit;
            wants(isFace || outside instanceof ClassTree, tree, "2: a local class");
            wants(isFace || type.getModifiers().contains(Modifier.STATIC), tree, "2: a class that is not static");
            wants(isFace || !type.getModifiers().contains(Modifier.PUBLIC), tree, "1: a class that can be seen");
            classes++;
            int fields = 0;
            for (Tree member : tree.getMembers()) {
                wants(member.getKind() != Tree.Kind.BLOCK, member, "5: an initialiser block");
                if (member instanceof VariableTree field) {
                    boolean isStatic = field.getModifiers().getFlags().contains(Modifier.STATIC);
                    fields += isStatic ? 0 : 1;
                    if (isStatic) {
                        constant(field);
                    }
                }
            }
            wants(fields <= MOST_FIELDS, tree, "11: " + fields + " fields");
            return super.visitClass(tree, nothing);
        }

        private void constant(VariableTree field) {
            Element element = elementOf(field);
            wants(element.getModifiers().contains(Modifier.FINAL), field, "5: static and not final");
            boolean isArray = element.asType().getKind() == TypeKind.ARRAY;
            wants(isArray || element.asType().getKind().isPrimitive(), field, "5: static " + element.asType());
            if (isArray) {
                fixedArrays.add(element);
                wants(field.getInitializer() instanceof NewArrayTree row && row.getInitializers() != null, field,
                        "5: a static row that is not written out");
            }
        }

        @Override
        public Void visitMethod(MethodTree tree, Void nothing) {
            Element element = element();
            String name = name(element);
            wants(calls.put(name, new TreeSet<>()) == null, tree, "two methods " + name);
            if (element.getModifiers().contains(Modifier.PUBLIC)) {
                begins.add(name);
            }
            wants(tree.getParameters().size() <= MOST_PARAMETERS, tree, "11: " + tree.getParameters().size() + " parameters");
            wants(tree.getThrows().isEmpty(), tree, "6: throws");
            long from = trees.getSourcePositions().getStartPosition(unit, tree);
            long to = trees.getSourcePositions().getEndPosition(unit, tree);
            // A constructor that javac puts in has no end.
            if (to >= 0) {
                long lines = unit.getLineMap().getLineNumber(to) - unit.getLineMap().getLineNumber(from) + 1;
                wants(lines <= MOST_LINES, tree, "11: " + lines + " lines");
            }
            return super.visitMethod(tree, nothing);
        }

        @Override
        public Void visitVariable(VariableTree tree, Void nothing) {
            type(tree, element().asType());
            return super.visitVariable(tree, nothing);
        }

        private void type(Tree tree, TypeMirror told) {
            TypeMirror type = told;
            int dimensions = 0;
            while (type.getKind() == TypeKind.ARRAY) {
                type = ((ArrayType) type).getComponentType();
                dimensions++;
            }
            boolean isOwn = type.toString().startsWith("RailPower.");
            wants(isOwn || type.getKind().isPrimitive(), tree, "3: a type that the class does not need: " + told);
            wants(type.getKind() != TypeKind.DOUBLE && type.getKind() != TypeKind.FLOAT, tree, "3: " + told);
            wants(dimensions < 2 || dimensions == 2 && !isOwn, tree, "3: dimensions of " + told);
        }

        @Override
        public Void visitMethodInvocation(MethodInvocationTree tree, Void nothing) {
            called(tree, elementOf(tree.getMethodSelect()));
            return super.visitMethodInvocation(tree, nothing);
        }

        private void called(Tree tree, Element element) {
            String name = name(element);
            boolean isOwn = name.startsWith("RailPower.");
            wants(isOwn || LIBRARY.contains(name), tree, "4: " + name);
            if (around() instanceof MethodTree method) {
                calls.get(name(elementOf(method))).add(name);
                boolean isMaking = method.getReturnType() == null;
                wants(!isMaking || element.getKind() == ElementKind.CONSTRUCTOR, tree, "12: a constructor calls " + name);
            }
        }

        @Override
        public Void visitNewClass(NewClassTree tree, Void nothing) {
            wants(tree.getClassBody() == null, tree, "2: an anonymous class");
            made(tree);
            called(tree, element());
            return super.visitNewClass(tree, nothing);
        }

        @Override
        public Void visitNewArray(NewArrayTree tree, Void nothing) {
            made(tree);
            for (ExpressionTree length : tree.getDimensions()) {
                Object known = elementOf(length) instanceof javax.lang.model.element.VariableElement constant
                        ? constant.getConstantValue() : null;
                wants(known instanceof Integer && (Integer) known >= 0, tree, "7: a length that is no constant");
            }
            return super.visitNewArray(tree, nothing);
        }

        // All calls of a run live in one room, so calls make nothing.
        private void made(Tree tree) {
            boolean inMethod = around() instanceof MethodTree method && method.getReturnType() != null;
            wants(!inMethod, tree, "12: made outside constructors");
        }

        @Override
        public Void visitBinary(BinaryTree tree, Void nothing) {
            if (tree.getKind() == Tree.Kind.DIVIDE || tree.getKind() == Tree.Kind.REMAINDER) {
                divisor(tree.getRightOperand());
            }
            return super.visitBinary(tree, nothing);
        }

        @Override
        public Void visitCompoundAssignment(CompoundAssignmentTree tree, Void nothing) {
            if (tree.getKind() == Tree.Kind.DIVIDE_ASSIGNMENT || tree.getKind() == Tree.Kind.REMAINDER_ASSIGNMENT) {
                divisor(tree.getExpression());
            }
            written(tree.getVariable());
            return super.visitCompoundAssignment(tree, nothing);
        }

        /** A number other than 0, or one that its method compares with 0. */
        private void divisor(ExpressionTree tree) {
            if (tree instanceof LiteralTree literal) {
                wants(((Number) literal.getValue()).longValue() != 0, tree, "7: by 0");
                return;
            }
            String told = tree.toString();
            boolean[] compared = {false};
            new TreePathScanner<Void, Void>() {
                @Override
                public Void visitBinary(BinaryTree each, Void nothing) {
                    compared[0] |= COMPARING.contains(each.getKind()) && each.getLeftOperand().toString().equals(told)
                            && each.getRightOperand().toString().equals("0");
                    return super.visitBinary(each, nothing);
                }
            }.scan(TreePath.getPath(unit, around()), null);
            wants(compared[0], tree, "7: a divisor that is not looked at: " + told);
        }

        @Override
        public Void visitAssignment(AssignmentTree tree, Void nothing) {
            written(tree.getVariable());
            return super.visitAssignment(tree, nothing);
        }

        @Override
        public Void visitUnary(UnaryTree tree, Void nothing) {
            written(tree.getExpression());
            return super.visitUnary(tree, nothing);
        }

        private void written(ExpressionTree tree) {
            if (tree instanceof ArrayAccessTree access) {
                wants(!fixedArrays.contains(elementOf(access.getExpression())), tree, "5: a static row is changed");
            }
        }

        @Override
        public Void visitForLoop(ForLoopTree tree, Void nothing) {
            wants(tree.getCondition() != null && !tree.getUpdate().isEmpty(), tree, "9: no end can be seen");
            return super.visitForLoop(tree, nothing);
        }

        @Override
        public Void visitWhileLoop(WhileLoopTree tree, Void nothing) {
            wants(false, tree, "9: no counter can be seen");
            return super.visitWhileLoop(tree, nothing);
        }

        @Override
        public Void visitDoWhileLoop(DoWhileLoopTree tree, Void nothing) {
            wants(false, tree, "9: no counter can be seen");
            return super.visitDoWhileLoop(tree, nothing);
        }
    }
}

import com.sun.source.tree.AssertTree;
import com.sun.source.tree.BinaryTree;
import com.sun.source.tree.BlockTree;
import com.sun.source.tree.ClassTree;
import com.sun.source.tree.CompilationUnitTree;
import com.sun.source.tree.CompoundAssignmentTree;
import com.sun.source.tree.ForLoopTree;
import com.sun.source.tree.ImportTree;
import com.sun.source.tree.InstanceOfTree;
import com.sun.source.tree.LambdaExpressionTree;
import com.sun.source.tree.LiteralTree;
import com.sun.source.tree.MemberReferenceTree;
import com.sun.source.tree.MemberSelectTree;
import com.sun.source.tree.MethodInvocationTree;
import com.sun.source.tree.MethodTree;
import com.sun.source.tree.NewArrayTree;
import com.sun.source.tree.NewClassTree;
import com.sun.source.tree.SynchronizedTree;
import com.sun.source.tree.ThrowTree;
import com.sun.source.tree.Tree;
import com.sun.source.tree.TryTree;
import com.sun.source.tree.TypeCastTree;
import com.sun.source.tree.VariableTree;
import com.sun.source.tree.WhileLoopTree;
import com.sun.source.util.JavacTask;
import com.sun.source.util.SourcePositions;
import com.sun.source.util.TreePath;
import com.sun.source.util.TreePathScanner;
import com.sun.source.util.Trees;
import java.io.IOException;
import java.nio.charset.StandardCharsets;
import java.nio.file.Files;
import java.nio.file.Path;
import java.util.HashMap;
import java.util.LinkedHashMap;
import java.util.LinkedHashSet;
import java.util.List;
import java.util.Map;
import java.util.Set;
import java.util.TreeSet;
import java.util.regex.Pattern;
import javax.lang.model.element.Element;
import javax.lang.model.element.ElementKind;
import javax.lang.model.element.Modifier;
import javax.lang.model.type.TypeKind;
import javax.lang.model.type.TypeMirror;
import javax.tools.JavaCompiler;
import javax.tools.StandardJavaFileManager;
import javax.tools.ToolProvider;

/** The rules of ../shared/LANGUAGE.md that a program can hold the source against, by javac's own tree of it. */
public final class LanguageTest {
    private static final Check CHECK = new Check("LanguageTest");
    private static final Path SOURCE = Path.of("src/main/java/RiverReaches.java");

    private static final Set<String> EXCEPTIONS = Set.of("IllegalStateException", "IllegalArgumentException",
            "IndexOutOfBoundsException", "ArithmeticException", "UnsupportedOperationException",
            "NoSuchElementException", "RuntimeException");
    private static final Set<String> LIBRARY = Set.of("String.length", "String.charAt", "StringBuilder.append",
            "StringBuilder.charAt", "StringBuilder.setLength", "StringBuilder.length", "Math.min", "Math.max");
    /** Primitives, String and StringBuilder, and arrays of one dimension; the file's own classes are added to them. */
    private static final Pattern TYPE = Pattern.compile(
            "(void|int|long|short|byte|char|boolean|double|float|(java\\.lang\\.)?(String|StringBuilder))(\\[\\])?");

    private static final int MOST_LINES = 60;
    private static final int MOST_PARAMETERS = 7;
    private static final int MOST_DEPTH = 8;
    private static final int MOST_CLASSES = 12;
    private static final int MOST_FIELDS = 20;

    public static void main(String[] args) throws IOException {
        signs();
        JavaCompiler compiler = ToolProvider.getSystemJavaCompiler();
        StandardJavaFileManager files = compiler.getStandardFileManager(null, null, StandardCharsets.UTF_8);
        JavacTask task = (JavacTask) compiler.getTask(null, files, null, List.of("-proc:none"), null,
                files.getJavaFileObjects(SOURCE));
        CompilationUnitTree unit = task.parse().iterator().next();
        task.analyze();
        Rules rules = new Rules(Trees.instance(task), unit);
        rules.scan(unit, null);
        rules.finish();
        CHECK.finish();
    }

    private static void signs() throws IOException {
        for (byte sign : Files.readAllBytes(SOURCE)) {
            if (sign != '\n' && (sign < ' ' || sign > '~')) {
                CHECK.due("a sign of the source", sign, ' ');
            }
        }
    }

    private static final class Rules extends TreePathScanner<Void, Void> {
        private final Trees trees;
        private final CompilationUnitTree unit;
        private final SourcePositions positions;
        private final Set<String> classes = new TreeSet<>();
        private final Set<String> publicNames = new TreeSet<>();
        private final Map<Element, Set<Element>> calls = new LinkedHashMap<>();
        private final Map<Element, Integer> depths = new HashMap<>();
        private Element method;
        private boolean inConstructor;
        private boolean inThrow;

        Rules(Trees trees, CompilationUnitTree unit) {
            this.trees = trees;
            this.unit = unit;
            positions = trees.getSourcePositions();
        }

        private void refuse(int rule, String what, Tree tree) {
            long line = unit.getLineMap().getLineNumber(positions.getStartPosition(unit, tree));
            CHECK.due("rule " + rule + ", line " + line + ": " + what, "found", "none");
        }

        private void require(int rule, String what, Tree tree, boolean holds) {
            if (holds) {
                CHECK.due(what, "holds", "holds");
            } else {
                refuse(rule, what, tree);
            }
        }

        private TypeMirror typeOf(Tree tree) {
            return trees.getTypeMirror(new TreePath(getCurrentPath(), tree));
        }

        private boolean isString(Tree tree) {
            return String.valueOf(typeOf(tree)).equals("java.lang.String");
        }

        private void requireType(Tree tree, Tree at) {
            String type = String.valueOf(tree == null ? "void" : typeOf(tree));
            String base = type.replace("[]", "").replace("RiverReaches.", "");
            boolean own = classes.contains(base) && !type.contains("[][]");
            require(3, "the type " + type, at, own || TYPE.matcher(type).matches());
        }

        @Override
        public Void visitCompilationUnit(CompilationUnitTree tree, Void none) {
            require(1, "a package", tree, tree.getPackage() == null);
            require(1, "one class in the file", tree, tree.getTypeDecls().size() == 1);
            ClassTree outer = (ClassTree) tree.getTypeDecls().get(0);
            classes.add(outer.getSimpleName().toString());
            for (Tree member : outer.getMembers()) {
                if (member instanceof ClassTree inside) {
                    classes.add(inside.getSimpleName().toString());
                } else if (member instanceof MethodTree face && isPublic(face)) {
                    publicNames.add(face.getName().toString());
                }
            }
            require(11, "the number of classes", tree, classes.size() <= MOST_CLASSES);
            return super.visitCompilationUnit(tree, none);
        }

        private static boolean isPublic(MethodTree tree) {
            return tree.getModifiers().getFlags().contains(Modifier.PUBLIC);
        }

        @Override
        public Void visitImport(ImportTree tree, Void none) {
            String name = tree.getQualifiedIdentifier().toString();
            require(4, name, tree, name.equals("java.util.NoSuchElementException"));
            return null;
        }

        @Override
        public Void visitClass(ClassTree tree, Void none) {
            String name = tree.getSimpleName().toString();
            require(2, "the class " + name + " is not one of the file's", tree, classes.contains(name));
            long fields = tree.getMembers().stream().filter(member -> member instanceof VariableTree field
                    && !field.getModifiers().getFlags().contains(Modifier.STATIC)).count();
            require(11, "the fields of " + name, tree, fields <= MOST_FIELDS);
            for (Tree member : tree.getMembers()) {
                require(5, "a block for itself in " + name, member, !(member instanceof BlockTree));
            }
            return super.visitClass(tree, none);
        }

        @Override
        public Void visitMethod(MethodTree tree, Void none) {
            method = trees.getElement(getCurrentPath());
            calls.put(method, new LinkedHashSet<>());
            inConstructor = tree.getReturnType() == null;
            String name = tree.getName().toString();
            boolean isFree = inConstructor || isPublic(tree) || !publicNames.contains(name);
            require(1, name + " bears a public name", tree, isFree);
            require(6, name, tree, !Set.of("equals", "hashCode", "toString", "finalize").contains(name));
            require(11, "the parameters of " + name, tree, tree.getParameters().size() <= MOST_PARAMETERS);
            require(11, "the lines of " + name, tree, lines(tree) <= MOST_LINES);
            requireType(tree.getReturnType(), tree);
            Void result = super.visitMethod(tree, none);
            method = null;
            inConstructor = false;
            return result;
        }

        private long lines(Tree tree) {
            long start = positions.getStartPosition(unit, tree);
            long end = positions.getEndPosition(unit, tree);
            return start < 0 || end < 0 ? 0
                    : unit.getLineMap().getLineNumber(end) - unit.getLineMap().getLineNumber(start) + 1;
        }

        @Override
        public Void visitVariable(VariableTree tree, Void none) {
            Element element = trees.getElement(getCurrentPath());
            boolean isConstant = element.getKind() == ElementKind.ENUM_CONSTANT;
            if (!isConstant) {
                requireType(tree.getType(), tree);
            }
            Set<Modifier> flags = element.getModifiers();
            if (flags.contains(Modifier.STATIC)) {
                require(5, tree.getName() + " is not final", tree, flags.contains(Modifier.FINAL));
                require(5, tree.getName() + " is no constant", tree, isConstant || isKeptOnce(element, tree));
            }
            return super.visitVariable(tree, none);
        }

        private static boolean isKeptOnce(Element element, VariableTree tree) {
            boolean isText = element.asType().toString().equals("java.lang.String");
            boolean isValues = String.valueOf(tree.getInitializer()).endsWith(".values()");
            return element.asType().getKind().isPrimitive() || isText || isValues;
        }

        @Override
        public Void visitMethodInvocation(MethodInvocationTree tree, Void none) {
            Element called = trees.getElement(getCurrentPath());
            String owner = ownerOf(tree, called);
            String name = called.getSimpleName().toString();
            if (classes.contains(owner) && !name.equals("values")) {
                require(12, "a constructor calls " + name, tree, !inConstructor || name.equals("<init>"));
                if (method != null) {
                    calls.get(method).add(called);
                }
            } else if (name.equals("values")) {
                require(12, "values() is kept once", tree, method == null);
            } else {
                boolean isSuper = inConstructor && name.equals("<init>");
                require(4, owner + "." + name, tree, isSuper || LIBRARY.contains(owner + "." + name));
                boolean isMath = owner.equals("Math");
                require(3, "Math on numbers that are no integers", tree, !isMath
                        || tree.getArguments().stream().allMatch(argument -> isInteger(typeOf(argument))));
            }
            return super.visitMethodInvocation(tree, none);
        }

        /** The class that stands before the dot: a call on a StringBuilder may be one of a class above it. */
        private String ownerOf(MethodInvocationTree tree, Element called) {
            if (tree.getMethodSelect() instanceof MemberSelectTree select) {
                TreePath path = new TreePath(getCurrentPath(), select);
                String type = String.valueOf(trees.getTypeMirror(new TreePath(path, select.getExpression())));
                return type.substring(type.lastIndexOf('.') + 1);
            }
            return called.getEnclosingElement().getSimpleName().toString();
        }

        private static boolean isInteger(TypeMirror type) {
            return type.getKind().isPrimitive() && type.getKind() != TypeKind.DOUBLE && type.getKind() != TypeKind.FLOAT;
        }

        @Override
        public Void visitThrow(ThrowTree tree, Void none) {
            require(6, "a constructor throws", tree, !inConstructor);
            boolean isNew = tree.getExpression() instanceof NewClassTree made
                    && EXCEPTIONS.contains(made.getIdentifier().toString())
                    && made.getArguments().stream().allMatch(argument -> argument instanceof LiteralTree)
                    && made.getArguments().size() <= 1;
            require(6, "throw of " + tree.getExpression(), tree, isNew);
            inThrow = true;
            super.visitThrow(tree, none);
            inThrow = false;
            return null;
        }

        /** This class makes everything in its constructors, so that no run of calls needs more room. */
        @Override
        public Void visitNewClass(NewClassTree tree, Void none) {
            require(2, "an anonymous class", tree, tree.getClassBody() == null);
            require(12, "new " + tree.getIdentifier(), tree, method == null || inConstructor || inThrow);
            String name = tree.getIdentifier().toString();
            boolean known = classes.contains(name) || name.equals("StringBuilder") || inThrow;
            require(4, "new " + name, tree, known);
            return super.visitNewClass(tree, none);
        }

        @Override
        public Void visitNewArray(NewArrayTree tree, Void none) {
            require(12, "a new array", tree, method == null || inConstructor);
            return super.visitNewArray(tree, none);
        }

        @Override
        public Void visitBinary(BinaryTree tree, Void none) {
            boolean isText = isString(tree.getLeftOperand()) || isString(tree.getRightOperand());
            boolean isNull = tree.getRightOperand().getKind() == Tree.Kind.NULL_LITERAL;
            require(6, tree + " of texts", tree, !isText || isNull);
            return super.visitBinary(tree, none);
        }

        @Override
        public Void visitCompoundAssignment(CompoundAssignmentTree tree, Void none) {
            require(10, tree + " of texts", tree, !isString(tree.getVariable()));
            return super.visitCompoundAssignment(tree, none);
        }

        @Override
        public Void visitForLoop(ForLoopTree tree, Void none) {
            require(9, "a loop without a bound", tree, tree.getCondition() != null);
            return super.visitForLoop(tree, none);
        }

        @Override
        public Void visitWhileLoop(WhileLoopTree tree, Void none) {
            require(9, "a loop without a bound", tree, !tree.getCondition().toString().equals("(true)"));
            return super.visitWhileLoop(tree, none);
        }

        @Override
        public Void visitTypeCast(TypeCastTree tree, Void none) {
            require(7, "a cast of a reference", tree, typeOf(tree.getType()).getKind().isPrimitive());
            return super.visitTypeCast(tree, none);
        }

        @Override
        public Void visitInstanceOf(InstanceOfTree tree, Void none) {
            refuse(6, "instanceof", tree);
            return null;
        }

        @Override
        public Void visitTry(TryTree tree, Void none) {
            refuse(6, "try", tree);
            return null;
        }

        @Override
        public Void visitLambdaExpression(LambdaExpressionTree tree, Void none) {
            refuse(2, "a lambda", tree);
            return null;
        }

        @Override
        public Void visitMemberReference(MemberReferenceTree tree, Void none) {
            refuse(2, "a method reference", tree);
            return null;
        }

        @Override
        public Void visitSynchronized(SynchronizedTree tree, Void none) {
            refuse(6, "synchronized", tree);
            return null;
        }

        @Override
        public Void visitAssert(AssertTree tree, Void none) {
            refuse(6, "assert", tree);
            return null;
        }

        void finish() {
            for (Element caller : calls.keySet()) {
                int depth = depth(caller, 0);
                CHECK.due("rule 11: " + caller + " calls at most eight deep, and none itself", depth <= MOST_DEPTH, true);
            }
        }

        private int depth(Element caller, int above) {
            // A method that calls itself ends here too.
            if (above > MOST_DEPTH) {
                return MOST_DEPTH + 1;
            }
            Integer known = depths.get(caller);
            if (known != null) {
                return known;
            }
            int deepest = 0;
            for (Element called : calls.getOrDefault(caller, Set.of())) {
                deepest = Math.max(deepest, depth(called, above + 1));
            }
            depths.put(caller, deepest + 1);
            return deepest + 1;
        }
    }
}

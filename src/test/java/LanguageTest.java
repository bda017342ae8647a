import com.sun.source.tree.ArrayAccessTree;
import com.sun.source.tree.BinaryTree;
import com.sun.source.tree.BlockTree;
import com.sun.source.tree.ClassTree;
import com.sun.source.tree.CompilationUnitTree;
import com.sun.source.tree.ExpressionTree;
import com.sun.source.tree.ForLoopTree;
import com.sun.source.tree.MethodInvocationTree;
import com.sun.source.tree.MethodTree;
import com.sun.source.tree.NewArrayTree;
import com.sun.source.tree.NewClassTree;
import com.sun.source.tree.Tree;
import com.sun.source.tree.TypeCastTree;
import com.sun.source.tree.VariableTree;
import com.sun.source.tree.WhileLoopTree;
import com.sun.source.util.JavacTask;
import com.sun.source.util.TreePath;
import com.sun.source.util.TreePathScanner;
import com.sun.source.util.Trees;
import java.io.File;
import java.util.ArrayList;
import java.util.Arrays;
import java.util.HashMap;
import java.util.HashSet;
import java.util.LinkedHashSet;
import java.util.List;
import java.util.Map;
import java.util.Set;
import javax.lang.model.element.Element;
import javax.lang.model.element.ElementKind;
import javax.lang.model.element.ExecutableElement;
import javax.lang.model.element.Modifier;
import javax.lang.model.element.VariableElement;
import javax.lang.model.type.TypeMirror;
import javax.tools.JavaCompiler;
import javax.tools.StandardJavaFileManager;
import javax.tools.ToolProvider;

/**
 * The rules of ../shared/LANGUAGE.md that the compiler's own tree of the class can show to be kept. In
 * places it asks for more than a rule does, where that is simpler to see: the class uses few types and
 * little of the library, makes objects in constructors alone, and reaches rows through two methods.
 */
public final class LanguageTest {
    private static final String SOURCE = "src/main/java/HosieryPlant.java";
    private static final Set<String> LIBRARY = new HashSet<>(Arrays.asList(
            "java.lang.Math.abs(int)", "java.lang.Math.min(int,int)", "java.lang.Math.max(int,int)",
            "java.lang.Integer.bitCount(int)",
            "java.lang.System.arraycopy(java.lang.Object,int,java.lang.Object,int,int)",
            "java.lang.String.length()", "java.lang.String.charAt(int)",
            "java.lang.StringBuilder.append(char)", "java.lang.StringBuilder.append(int)",
            "java.lang.StringBuilder.append(java.lang.String)", "java.lang.AbstractStringBuilder.charAt(int)",
            "java.lang.AbstractStringBuilder.length()", "java.lang.AbstractStringBuilder.setLength(int)"));
    // What stands nowhere, with the rule that is against it, or that it would make hard to see.
    private static final Map<Tree.Kind, Integer> NOWHERE = Map.of(Tree.Kind.THROW, 6, Tree.Kind.TRY, 6,
            Tree.Kind.SYNCHRONIZED, 6, Tree.Kind.ASSERT, 6, Tree.Kind.LAMBDA_EXPRESSION, 2,
            Tree.Kind.MEMBER_REFERENCE, 2, Tree.Kind.DO_WHILE_LOOP, 9, Tree.Kind.DIVIDE_ASSIGNMENT, 7,
            Tree.Kind.REMAINDER_ASSIGNMENT, 7);
    // All other methods go through at() and put(), which look at the index.
    private static final Set<String> MAY_INDEX = new HashSet<>(Arrays.asList(
            "at", "put", "placeOf", "recall", "remember", "<init>"));
    private static int wrong = 0;

    private static void due(int rule, Object where, boolean kept) {
        if (!kept) {
            wrong++;
            System.out.println("rule " + rule + " is not kept: " + where.toString().replace('\n', ' '));
        }
    }

    public static void main(String[] args) throws Exception {
        JavaCompiler compiler = ToolProvider.getSystemJavaCompiler();
        try (StandardJavaFileManager files = compiler.getStandardFileManager(null, null, null)) {
            JavacTask task = (JavacTask) compiler.getTask(null, files, null, Arrays.asList("--release", "17"), null,
                    files.getJavaFileObjects(new File(SOURCE)));
            CompilationUnitTree unit = task.parse().iterator().next();
            task.analyze();
            due(1, "a package line", unit.getPackageName() == null);
            due(4, "an import", unit.getImports().isEmpty());
            due(1, "more than one class in the file", unit.getTypeDecls().size() == 1);
            Rules rules = new Rules(Trees.instance(task), unit);
            rules.scan(unit, null);
            rules.checkTheWhole();
        }
        System.exit(wrong == 0 ? 0 : 1);
    }

    private static final class Rules extends TreePathScanner<Void, Void> {
        private final Trees trees;
        private final CompilationUnitTree unit;
        private final Map<Element, Set<Element>> calls = new HashMap<>();
        private final Set<String> publicNames = new HashSet<>();
        private final Set<String> otherNames = new HashSet<>();
        private Element method;
        private int classes = 0;

        Rules(Trees trees, CompilationUnitTree unit) {
            this.trees = trees;
            this.unit = unit;
        }

        private Element element() {
            return trees.getElement(getCurrentPath());
        }

        private TypeMirror typeOf(Tree tree) {
            return trees.getTypeMirror(new TreePath(getCurrentPath(), tree));
        }

        private boolean isConstant(ExpressionTree tree) {
            Element named = trees.getElement(new TreePath(getCurrentPath(), tree));
            return tree.getKind() == Tree.Kind.INT_LITERAL
                    || named instanceof VariableElement && ((VariableElement) named).getConstantValue() != null;
        }

        private static boolean isOwn(Element element) {
            return element.toString().startsWith("HosieryPlant")
                    || element.getEnclosingElement() != null && isOwn(element.getEnclosingElement());
        }

        private int lineOf(long position) {
            return (int) unit.getLineMap().getLineNumber(position);
        }

        @Override
        public Void scan(Tree tree, Void none) {
            if (tree != null && NOWHERE.containsKey(tree.getKind())) {
                due(NOWHERE.get(tree.getKind()), tree, false);
            }
            return super.scan(tree, none);
        }

        @Override
        public Void visitClass(ClassTree tree, Void none) {
            Element type = element();
            boolean outer = type.getEnclosingElement().getKind() == ElementKind.PACKAGE;
            classes++;
            due(2, tree.getSimpleName(), outer || type.getEnclosingElement().getKind() == ElementKind.CLASS
                    && type.getModifiers().contains(Modifier.STATIC)
                    && !type.getModifiers().contains(Modifier.PUBLIC)
                    && !type.getModifiers().contains(Modifier.PROTECTED));
            int fields = 0;
            for (Tree member : tree.getMembers()) {
                due(5, "a block outside the methods of " + tree.getSimpleName(), !(member instanceof BlockTree));
                if (member instanceof VariableTree && !isStatic((VariableTree) member)) {
                    fields++;
                }
            }
            due(11, tree.getSimpleName() + " has " + fields + " fields", fields <= 20);
            return super.visitClass(tree, none);
        }

        private static boolean isStatic(VariableTree field) {
            return field.getModifiers().getFlags().contains(Modifier.STATIC);
        }

        @Override
        public Void visitVariable(VariableTree tree, Void none) {
            due(5, tree, !isStatic(tree) || ((VariableElement) element()).getConstantValue() != null);
            String type = trees.getTypeMirror(getCurrentPath()).toString();
            due(3, tree, Arrays.asList("int", "long", "boolean", "int[]", "long[]", "java.lang.String",
                    "java.lang.StringBuilder", "HosieryPlant.Plant[]").contains(type)
                    || type.startsWith("HosieryPlant.") && !type.contains("["));
            return super.visitVariable(tree, none);
        }

        @Override
        public Void visitMethod(MethodTree tree, Void none) {
            method = element();
            calls.put(method, new LinkedHashSet<>());
            boolean isPublic = method.getModifiers().contains(Modifier.PUBLIC);
            if (isPublic) {
                publicNames.add(tree.getName().toString());
            } else if (!method.getSimpleName().contentEquals("<init>")) {
                otherNames.add(tree.getName().toString());
            }
            due(1, tree.getName() + " is public inside", !isPublic
                    || method.getEnclosingElement().toString().equals("HosieryPlant"));
            due(11, tree.getName() + " takes too much", tree.getParameters().size() <= 7);
            int first = lineOf(trees.getSourcePositions().getStartPosition(unit, tree));
            int last = lineOf(trees.getSourcePositions().getEndPosition(unit, tree));
            due(11, tree.getName() + " is too long", last - first < 60);
            return super.visitMethod(tree, none);
        }

        @Override
        public Void visitMethodInvocation(MethodInvocationTree tree, Void none) {
            Element called = element();
            boolean addedByCompiler = called.getSimpleName().contentEquals("<init>");
            if (isOwn(called)) {
                calls.get(method).add(called);
            } else if (!addedByCompiler) {
                due(4, tree, LIBRARY.contains(called.getEnclosingElement() + "." + called));
            }
            for (ExpressionTree argument : tree.getArguments()) {
                checkNotHandedOut(argument);
            }
            return super.visitMethodInvocation(tree, none);
        }

        @Override
        public Void visitNewClass(NewClassTree tree, Void none) {
            due(2, tree, tree.getClassBody() == null);
            due(12, tree, method.getSimpleName().contentEquals("<init>"));
            Element made = element();
            due(4, tree, isOwn(made) || made.toString().equals("StringBuilder()"));
            if (isOwn(made)) {
                calls.get(method).add(made);
            }
            for (ExpressionTree argument : tree.getArguments()) {
                checkNotHandedOut(argument);
            }
            return super.visitNewClass(tree, none);
        }

        /** A constructor hands out nothing of the object that it makes, neither the object nor a field of it. */
        private void checkNotHandedOut(ExpressionTree argument) {
            Element handed = trees.getElement(new TreePath(getCurrentPath(), argument));
            boolean part = handed != null && handed.getKind() == ElementKind.FIELD
                    && !handed.getModifiers().contains(Modifier.STATIC);
            due(12, argument, !method.getSimpleName().contentEquals("<init>")
                    || !part && !argument.toString().equals("this"));
        }

        @Override
        public Void visitNewArray(NewArrayTree tree, Void none) {
            due(12, tree, method != null && method.getSimpleName().contentEquals("<init>"));
            return super.visitNewArray(tree, none);
        }

        @Override
        public Void visitArrayAccess(ArrayAccessTree tree, Void none) {
            due(7, tree, MAY_INDEX.contains(method.getSimpleName().toString()));
            return super.visitArrayAccess(tree, none);
        }

        @Override
        public Void visitBinary(BinaryTree tree, Void none) {
            boolean divides = tree.getKind() == Tree.Kind.DIVIDE || tree.getKind() == Tree.Kind.REMAINDER;
            // The pairs in a box are looked at in both methods that divide by them.
            due(7, tree, !divides || isConstant(tree.getRightOperand()) || tree.getRightOperand().toString().equals("plant.box"));
            due(10, tree, tree.getKind() != Tree.Kind.PLUS || typeOf(tree.getLeftOperand()).getKind().isPrimitive()
                    && typeOf(tree.getRightOperand()).getKind().isPrimitive());
            due(6, tree, tree.getKind() != Tree.Kind.EQUAL_TO && tree.getKind() != Tree.Kind.NOT_EQUAL_TO
                    || !typeOf(tree.getLeftOperand()).toString().equals("java.lang.String"));
            return super.visitBinary(tree, none);
        }

        @Override
        public Void visitTypeCast(TypeCastTree tree, Void none) {
            due(6, tree, typeOf(tree.getType()).getKind().isPrimitive());
            return super.visitTypeCast(tree, none);
        }

        @Override
        public Void visitForLoop(ForLoopTree tree, Void none) {
            due(9, tree, tree.getCondition() != null && !tree.getUpdate().isEmpty());
            return super.visitForLoop(tree, none);
        }

        @Override
        public Void visitWhileLoop(WhileLoopTree tree, Void none) {
            due(9, tree, tree.getCondition().toString().startsWith("(next < textLength &&")
                    && tree.getStatement().toString().contains("next++"));
            return super.visitWhileLoop(tree, none);
        }

        void checkTheWhole() {
            due(11, classes + " classes", classes <= 12);
            for (String name : publicNames) {
                due(1, name + " is the name of a public method and of another", !otherNames.contains(name));
            }
            for (Element each : calls.keySet()) {
                List<Element> open = new ArrayList<>();
                checkDepth(each, open);
            }
        }

        /** A method that calls itself counts once: worthOf, which carries its depth. */
        private void checkDepth(Element called, List<Element> open) {
            open.add(called);
            due(11, open, open.size() <= 8);
            for (Element next : calls.getOrDefault(called, new HashSet<>())) {
                if (next.equals(called)) {
                    due(8, called, called.getModifiers().contains(Modifier.STATIC)
                            && ((ExecutableElement) called).getParameters().toString().contains("depth"));
                } else if (open.contains(next)) {
                    due(8, open, false);
                } else {
                    checkDepth(next, open);
                }
            }
            open.remove(open.size() - 1);
        }
    }
}

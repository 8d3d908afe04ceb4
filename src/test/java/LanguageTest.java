import com.sun.source.tree.*;
import com.sun.source.util.JavacTask;
import com.sun.source.util.SourcePositions;
import com.sun.source.util.TreePath;
import com.sun.source.util.TreePathScanner;
import com.sun.source.util.Trees;
import java.nio.file.Path;
import java.util.ArrayList;
import java.util.HashMap;
import java.util.List;
import java.util.Map;
import java.util.Set;
import java.util.TreeSet;
import javax.lang.model.element.Element;
import javax.lang.model.element.ElementKind;
import javax.lang.model.element.Modifier;
import javax.lang.model.element.TypeElement;
import javax.lang.model.type.ArrayType;
import javax.lang.model.type.TypeMirror;
import javax.tools.JavaCompiler;
import javax.tools.StandardJavaFileManager;
import javax.tools.ToolProvider;

/** What the rules of ../shared/LANGUAGE.md say of the source and can be read off its tree, rule by rule. */
public final class LanguageTest {
    private static final Check CHECK = new Check("LanguageTest");
    private static final int METHOD_LINES = 60;
    private static final int PARAMETERS = 7;
    private static final int DEPTH = 8;
    private static final int CLASSES = 12;
    private static final int FIELDS = 20;
    private static final Set<String> LIBRARY = Set.of("String.length", "String.charAt", "Math.max", "Math.min", "Math.abs",
        "Math.floorMod", "Integer.bitCount", "System.arraycopy", "Arrays.fill");
    private static final Set<String> THROWN = Set.of("IllegalStateException", "IllegalArgumentException",
        "IndexOutOfBoundsException", "ArithmeticException", "UnsupportedOperationException", "NoSuchElementException",
        "RuntimeException");
    private static final Set<Tree.Kind> RULED_OUT = Set.of(Tree.Kind.LAMBDA_EXPRESSION, Tree.Kind.MEMBER_REFERENCE,
        Tree.Kind.TRY, Tree.Kind.ASSERT, Tree.Kind.SYNCHRONIZED, Tree.Kind.INSTANCE_OF, Tree.Kind.PACKAGE,
        Tree.Kind.ANNOTATION_TYPE, Tree.Kind.DOUBLE_LITERAL, Tree.Kind.FLOAT_LITERAL);

    private final Trees trees;
    private final CompilationUnitTree unit;
    private final SourcePositions places;
    private final List<String> broken = new ArrayList<>();
    private final Map<Element, Set<Element>> calls = new HashMap<>();
    private int methods;

    private LanguageTest(Trees trees, CompilationUnitTree unit) {
        this.trees = trees;
        this.unit = unit;
        this.places = trees.getSourcePositions();
    }

    private long line(Tree tree) {
        return unit.getLineMap().getLineNumber(places.getStartPosition(unit, tree));
    }

    private long lastLine(Tree tree) {
        return unit.getLineMap().getLineNumber(places.getEndPosition(unit, tree));
    }

    private void rule(int rule, Tree tree, boolean kept, String what) {
        if (!kept) {
            broken.add("rule " + rule + ", line " + line(tree) + ": " + what);
        }
    }

    private final class Reading extends TreePathScanner<Void, Void> {
        private Element method;

        @Override
        public Void scan(Tree tree, Void none) {
            if (tree != null) {
                rule(2, tree, !RULED_OUT.contains(tree.getKind()), tree.getKind() + " is ruled out");
            }
            return super.scan(tree, none);
        }

        private Element element(Tree tree) {
            return trees.getElement(new TreePath(getCurrentPath(), tree));
        }

        private boolean isOwn(Element element) {
            Element outer = element;
            while (outer != null && !(outer instanceof TypeElement && outer.getSimpleName().contentEquals("FeastBook"))) {
                outer = outer.getEnclosingElement();
            }
            return outer != null;
        }

        @Override
        public Void visitClass(ClassTree tree, Void none) {
            Element type = trees.getElement(getCurrentPath());
            boolean outermost = type.getEnclosingElement().getKind() == ElementKind.PACKAGE;
            Set<Modifier> modifiers = tree.getModifiers().getFlags();
            rule(1, tree, !outermost || modifiers.contains(Modifier.PUBLIC) && modifiers.contains(Modifier.FINAL),
                "public and final");
            rule(2, tree, outermost || modifiers.contains(Modifier.STATIC), tree.getSimpleName() + " is static");
            rule(2, tree, type.getEnclosingElement().getKind() == ElementKind.PACKAGE
                || type.getEnclosingElement().getKind() == ElementKind.CLASS, "no local class");
            int fields = 0;
            for (Tree member : tree.getMembers()) {
                rule(5, member, member.getKind() != Tree.Kind.BLOCK, "no initialiser block");
                if (member instanceof VariableTree field && !field.getModifiers().getFlags().contains(Modifier.STATIC)) {
                    fields++;
                }
            }
            rule(11, tree, fields <= FIELDS, tree.getSimpleName() + " has " + fields + " fields");
            return super.visitClass(tree, none);
        }

        @Override
        public Void visitMethod(MethodTree tree, Void none) {
            methods++;
            method = trees.getElement(getCurrentPath());
            calls.computeIfAbsent(method, m -> new java.util.LinkedHashSet<>());
            rule(11, tree, tree.getParameters().size() <= PARAMETERS, tree.getName() + " takes few parameters");
            rule(11, tree, lastLine(tree) - line(tree) < METHOD_LINES, tree.getName() + " is short");
            rule(6, tree, !Set.of("equals", "hashCode", "toString").contains(tree.getName().toString()), "no such method");
            super.visitMethod(tree, none);
            method = null;
            return null;
        }

        @Override
        public Void visitVariable(VariableTree tree, Void none) {
            TypeMirror type = trees.getElement(getCurrentPath()).asType();
            rule(3, tree, isAllowed(type), tree.getName() + " is of type " + type);
            boolean isField = trees.getElement(getCurrentPath()).getKind() == ElementKind.FIELD;
            Set<Modifier> modifiers = tree.getModifiers().getFlags();
            if (isField && modifiers.contains(Modifier.STATIC)) {
                rule(5, tree, modifiers.contains(Modifier.FINAL) && Set.of("int", "String").contains(type.toString()),
                    tree.getName() + " is a constant");
            }
            return super.visitVariable(tree, none);
        }

        private boolean isAllowed(TypeMirror type) {
            if (type instanceof ArrayType array) {
                return array.getComponentType().getKind().isPrimitive();
            }
            return Set.of("int", "long", "short", "byte", "char", "boolean", "java.lang.String").contains(type.toString())
                || type.toString().startsWith("FeastBook");
        }

        @Override
        public Void visitMethodInvocation(MethodInvocationTree tree, Void none) {
            Element called = element(tree.getMethodSelect());
            if (called.getKind() != ElementKind.CONSTRUCTOR) {
                String name = called.getEnclosingElement().getSimpleName() + "." + called.getSimpleName();
                rule(4, tree, isOwn(called) || LIBRARY.contains(name), name + " is of the library that is left");
                if (method != null) {
                    calls.get(method).add(called);
                }
            }
            return super.visitMethodInvocation(tree, none);
        }

        @Override
        public Void visitNewClass(NewClassTree tree, Void none) {
            boolean thrown = getCurrentPath().getParentPath().getLeaf().getKind() == Tree.Kind.THROW;
            boolean early = method == null || method.getKind() == ElementKind.CONSTRUCTOR;
            rule(12, tree, thrown || early, "objects are made in constructors alone");
            rule(2, tree, tree.getClassBody() == null, "no anonymous class");
            if (early && method != null) {
                calls.get(method).add(element(tree));
            }
            return super.visitNewClass(tree, none);
        }

        @Override
        public Void visitNewArray(NewArrayTree tree, Void none) {
            rule(12, tree, method == null || method.getKind() == ElementKind.CONSTRUCTOR, "rows are made in constructors alone");
            return super.visitNewArray(tree, none);
        }

        @Override
        public Void visitThrow(ThrowTree tree, Void none) {
            boolean made = tree.getExpression() instanceof NewClassTree;
            rule(6, tree, made, "throw new");
            if (tree.getExpression() instanceof NewClassTree thrown) {
                rule(6, tree, THROWN.contains(thrown.getIdentifier().toString()), thrown.getIdentifier() + " may be thrown");
                rule(6, tree, thrown.getArguments().stream().allMatch(a -> a.getKind() == Tree.Kind.STRING_LITERAL),
                    "a written text");
            }
            rule(6, tree, method != null && method.getKind() == ElementKind.METHOD, "no throw in a constructor");
            return super.visitThrow(tree, none);
        }

        @Override
        public Void visitLiteral(LiteralTree tree, Void none) {
            if (tree.getValue() instanceof String text) {
                rule(4, tree, text.chars().allMatch(c -> c >= 1 && c <= 127), "signs of a text");
            }
            return super.visitLiteral(tree, none);
        }

        @Override
        public Void visitBinary(BinaryTree tree, Void none) {
            boolean text = isText(tree.getLeftOperand()) || isText(tree.getRightOperand());
            rule(10, tree, !text, "no + and no == with texts");
            return super.visitBinary(tree, none);
        }

        private boolean isText(Tree tree) {
            TypeMirror type = trees.getTypeMirror(new TreePath(getCurrentPath(), tree));
            return type != null && type.toString().equals("java.lang.String");
        }

        @Override
        public Void visitForLoop(ForLoopTree tree, Void none) {
            bounded(tree, tree.getCondition());
            rule(9, tree, !tree.getInitializer().isEmpty() && !tree.getUpdate().isEmpty(), "a counter");
            return super.visitForLoop(tree, none);
        }

        @Override
        public Void visitWhileLoop(WhileLoopTree tree, Void none) {
            bounded(tree, tree.getCondition());
            return super.visitWhileLoop(tree, none);
        }

        @Override
        public Void visitDoWhileLoop(DoWhileLoopTree tree, Void none) {
            bounded(tree, tree.getCondition());
            return super.visitDoWhileLoop(tree, none);
        }

        private void bounded(Tree loop, Tree condition) {
            String text = String.valueOf(condition);
            rule(9, loop, text.contains("<") || text.contains(">"), "a counter against a bound: " + text);
        }
    }

    /** The calls that stand open at once from a method on, itself counted; rule 8: none comes back to itself. */
    private int depth(Element method, List<Element> open) {
        if (open.contains(method)) {
            broken.add("rule 8: " + method + " calls itself");
            return 1;
        }
        int deepest = 0;
        open.add(method);
        for (Element called : calls.getOrDefault(method, Set.of())) {
            deepest = Math.max(deepest, depth(called, open));
        }
        open.remove(open.size() - 1);
        return 1 + deepest;
    }

    private void read() {
        Reading reading = new Reading();
        reading.scan(unit, null);
        Set<String> imports = new TreeSet<>();
        unit.getImports().forEach(i -> imports.add(i.getQualifiedIdentifier().toString()));
        CHECK.due("imports", Set.of("java.util.Arrays", "java.util.NoSuchElementException"), () -> imports);
        CHECK.due("one class at the top", 1, () -> unit.getTypeDecls().size());
        CHECK.due("methods were read", true, () -> methods > 150);
        int deepest = 0;
        for (Element method : List.copyOf(calls.keySet())) {
            int deep = depth(method, new ArrayList<>());
            deepest = Math.max(deepest, deep);
            CHECK.due(method + " goes at most " + DEPTH + " deep", true, () -> deep <= DEPTH);
        }
        long classes = 1 + ((ClassTree) unit.getTypeDecls().get(0)).getMembers().stream().filter(m -> m instanceof ClassTree).count();
        CHECK.due("few classes", true, () -> classes <= CLASSES);
        for (String what : broken) {
            CHECK.due(what, true, () -> false);
        }
        CHECK.due("nothing is broken", 0, () -> broken.size());
        System.out.println("LanguageTest: " + methods + " methods, " + classes + " classes, calls go " + deepest + " deep");
    }

    public static void main(String[] args) throws Exception {
        if (args.length < 1) {
            System.out.println("LanguageTest wants the path of the source");
            System.exit(1);
        }
        JavaCompiler compiler = ToolProvider.getSystemJavaCompiler();
        try (StandardJavaFileManager files = compiler.getStandardFileManager(null, null, null)) {
            JavacTask task = (JavacTask) compiler.getTask(null, files, null, List.of("-proc:none"), null,
                files.getJavaFileObjects(Path.of(args[0])));
            CompilationUnitTree unit = task.parse().iterator().next();
            task.analyze();
            new LanguageTest(Trees.instance(task), unit).read();
        }
        CHECK.finish();
    }
}

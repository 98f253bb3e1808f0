import com.sun.source.tree.AssertTree;
import com.sun.source.tree.BinaryTree;
import com.sun.source.tree.ClassTree;
import com.sun.source.tree.CompilationUnitTree;
import com.sun.source.tree.ImportTree;
import com.sun.source.tree.LambdaExpressionTree;
import com.sun.source.tree.LiteralTree;
import com.sun.source.tree.MemberReferenceTree;
import com.sun.source.tree.MethodInvocationTree;
import com.sun.source.tree.MethodTree;
import com.sun.source.tree.NewClassTree;
import com.sun.source.tree.SynchronizedTree;
import com.sun.source.tree.ThrowTree;
import com.sun.source.tree.Tree;
import com.sun.source.tree.TryTree;
import com.sun.source.tree.VariableTree;
import com.sun.source.tree.WhileLoopTree;
import com.sun.source.util.JavacTask;
import com.sun.source.util.SourcePositions;
import com.sun.source.util.TreePathScanner;
import com.sun.source.util.Trees;
import java.nio.file.Files;
import java.nio.file.Path;
import java.util.ArrayDeque;
import java.util.Deque;
import java.util.HashSet;
import java.util.List;
import java.util.Map;
import java.util.Set;
import java.util.TreeMap;
import java.util.TreeSet;
import javax.lang.model.element.Element;
import javax.lang.model.element.ElementKind;
import javax.lang.model.element.ExecutableElement;
import javax.lang.model.element.Modifier;
import javax.lang.model.element.TypeElement;
import javax.lang.model.type.TypeKind;
import javax.lang.model.type.TypeMirror;
import javax.tools.JavaCompiler;
import javax.tools.StandardJavaFileManager;
import javax.tools.ToolProvider;

/**
 * The rules of LANGUAGE.md that can be seen in the source's tree, as the compiler reads it: what a rule
 * forbids is found by its kind, not by its letters, and library calls by what they resolve to.
 */
public final class LanguageTest {
    private static final Path SOURCE = Path.of("src/main/java/MarkChains.java");
    private static final int MOST_PARAMETERS = 7;
    private static final int MOST_LINES = 60;
    private static final int MOST_DEEP = 8;
    private static final int MOST_CLASSES = 12;
    private static final int MOST_FIELDS = 20;
    private static final Set<String> TYPES = Set.of("int", "long", "short", "byte", "char", "boolean", "double",
        "float", "java.lang.String", "java.lang.StringBuilder", "void");
    private static final Set<String> LIBRARY = Set.of("String.length", "String.charAt", "String.isEmpty", "String.equals",
        "String.indexOf", "String.substring", "String.toCharArray", "Arrays.copyOf", "Arrays.copyOfRange", "Arrays.fill",
        "System.arraycopy");
    private static final Set<String> NUMBERS = Set.of("Math", "Integer", "Long");
    private static final Set<String> CONSTANTS = Set.of("int", "long", "boolean", "char", "java.lang.String",
        "int[]", "long[]", "char[]", "byte[]");

    private static final Check CHECK = new Check("LanguageTest");

    public static void main(String[] args) throws Exception {
        JavaCompiler compiler = ToolProvider.getSystemJavaCompiler();
        StandardJavaFileManager files = compiler.getStandardFileManager(null, null, null);
        JavacTask task = (JavacTask) compiler.getTask(null, files, null, List.of("--release", "17", "-proc:none"),
            null, files.getJavaFileObjects(SOURCE));
        CompilationUnitTree unit = task.parse().iterator().next();
        task.analyze();
        CHECK.that("no package line", unit.getPackage() == null);
        for (ImportTree one : unit.getImports()) {
            CHECK.that(one.toString(), one.toString().trim().matches("import java\\.util\\.(Arrays|ArrayList|List);"));
        }
        Walk walk = new Walk(Trees.instance(task), unit);
        walk.scan(unit, null);
        walk.finish();
        signs();
        CHECK.finish();
    }

    /** Rule 4: signs of constants are 1 to 127. */
    private static void signs() throws Exception {
        for (char sign : Files.readString(SOURCE).toCharArray()) {
            if (sign < 1 || sign > 127) {
                CHECK.that("sign " + (int) sign, false);
            }
        }
    }

    private static final class Walk extends TreePathScanner<Void, Void> {
        private final Trees trees;
        private final CompilationUnitTree unit;
        private final SourcePositions positions;
        private final Map<String, Set<String>> calls = new TreeMap<>();
        private final Set<String> faceNames = new TreeSet<>();
        private final Set<String> otherNames = new TreeSet<>();
        private final Deque<String> open = new ArrayDeque<>();
        private int classes = 0;

        Walk(Trees trees, CompilationUnitTree unit) {
            this.trees = trees;
            this.unit = unit;
            positions = trees.getSourcePositions();
        }

        private long lineOf(long position) {
            return unit.getLineMap().getLineNumber(position);
        }

        private void forbid(String what, Tree tree) {
            CHECK.that(what + " in line " + lineOf(positions.getStartPosition(unit, tree)), false);
        }

        void finish() {
            CHECK.that(classes + " classes", classes <= MOST_CLASSES);
            otherNames.retainAll(faceNames);
            CHECK.that("no private method bears a public one's name: " + otherNames, otherNames.isEmpty());
            for (String method : calls.keySet()) {
                int deep = deepest(method, new HashSet<>());
                CHECK.that(method + " goes " + deep + " deep", deep <= MOST_DEEP);
            }
        }

        /** The calls that may stand open at once from this method on, itself counted; recursion is more than any limit. */
        private int deepest(String method, Set<String> above) {
            if (!calls.containsKey(method)) {
                return 0;
            }
            if (!above.add(method)) {
                return 1000;
            }
            int deep = 0;
            for (String called : calls.get(method)) {
                deep = Math.max(deep, deepest(called, above));
            }
            above.remove(method);
            return deep + 1;
        }

        // ---- rules 1, 2, 5, 11: classes and fields

        @Override
        public Void visitClass(ClassTree tree, Void none) {
            classes++;
            Element element = trees.getElement(getCurrentPath());
            String name = tree.getSimpleName().toString();
            boolean isOuter = element.getEnclosingElement().getKind() == ElementKind.PACKAGE;
            Set<Modifier> modifiers = element.getModifiers();
            CHECK.that("class " + name, !name.isEmpty() && (isOuter
                ? modifiers.contains(Modifier.PUBLIC) && modifiers.contains(Modifier.FINAL)
                : modifiers.contains(Modifier.STATIC) && !modifiers.contains(Modifier.PUBLIC)
                    && !modifiers.contains(Modifier.PROTECTED) && element.getEnclosingElement().getKind().isClass()));
            int fields = 0;
            for (Tree member : tree.getMembers()) {
                if (member.getKind() == Tree.Kind.BLOCK) {
                    forbid("an initialiser block", member);
                }
                if (member instanceof VariableTree field && !field.getModifiers().getFlags().contains(Modifier.STATIC)) {
                    fields++;
                }
            }
            CHECK.that(name + " has " + fields + " fields", fields <= MOST_FIELDS);
            return super.visitClass(tree, none);
        }

        @Override
        public Void visitVariable(VariableTree tree, Void none) {
            Element element = trees.getElement(getCurrentPath());
            TypeMirror type = element.asType();
            CHECK.that("type of " + tree, isAllowed(type));
            if (element.getKind() == ElementKind.FIELD && element.getModifiers().contains(Modifier.STATIC)) {
                CHECK.that("static " + tree, element.getModifiers().contains(Modifier.FINAL)
                    && CONSTANTS.contains(type.toString()) && tree.getInitializer() != null
                    && (type.getKind() != TypeKind.ARRAY || tree.getInitializer().getKind() == Tree.Kind.NEW_ARRAY));
            }
            return super.visitVariable(tree, none);
        }

        private boolean isAllowed(TypeMirror type) {
            String plain = type.toString();
            if (plain.endsWith("[]")) {
                plain = plain.substring(0, plain.length() - 2);
            }
            return TYPES.contains(plain) || plain.matches("MarkChains(\\.\\w+)?");
        }

        // ---- rules 1, 11: methods

        private String keyOf(Element method) {
            return method.getEnclosingElement() + "." + method;
        }

        @Override
        public Void visitMethod(MethodTree tree, Void none) {
            Element element = trees.getElement(getCurrentPath());
            boolean isFace = element.getModifiers().contains(Modifier.PUBLIC);
            if (element.getKind() == ElementKind.METHOD) {
                (isFace ? faceNames : otherNames).add(tree.getName().toString());
            }
            boolean isOfFace = element.getEnclosingElement().toString().equals("MarkChains");
            CHECK.that("public or private: " + element, !isOfFace || isFace
                || element.getModifiers().contains(Modifier.PRIVATE));
            CHECK.that("parameters of " + element, tree.getParameters().size() <= MOST_PARAMETERS);
            long first = lineOf(positions.getStartPosition(unit, tree));
            long last = lineOf(Math.max(positions.getStartPosition(unit, tree), positions.getEndPosition(unit, tree)));
            CHECK.that(element + " has " + (last - first + 1) + " lines", last - first + 1 <= MOST_LINES);
            String key = keyOf(element);
            calls.computeIfAbsent(key, one -> new TreeSet<>());
            open.push(key);
            super.visitMethod(tree, none);
            open.pop();
            return null;
        }

        // ---- rules 3, 4, 8: what is called

        @Override
        public Void visitMethodInvocation(MethodInvocationTree tree, Void none) {
            if (trees.getElement(getCurrentPath()) instanceof ExecutableElement method) {
                note(method, tree);
            }
            return super.visitMethodInvocation(tree, none);
        }

        private void note(ExecutableElement method, Tree tree) {
            TypeElement owner = (TypeElement) method.getEnclosingElement();
            if (owner.getQualifiedName().toString().startsWith("MarkChains")) {
                if (!open.isEmpty()) {
                    calls.get(open.peek()).add(keyOf(method));
                }
                return;
            }
            String name = method.getSimpleName().toString();
            String called = owner.getSimpleName() + "." + name;
            boolean isSuper = name.equals("<init>") && owner.getSimpleName().contentEquals("Object");
            boolean isReckoning = NUMBERS.contains(owner.getSimpleName().toString()) && !name.endsWith("Exact");
            CHECK.that("library " + called + " in line " + lineOf(positions.getStartPosition(unit, tree)),
                isSuper || isReckoning || LIBRARY.contains(called));
        }

        @Override
        public Void visitNewClass(NewClassTree tree, Void none) {
            if (tree.getClassBody() != null) {
                forbid("an anonymous class", tree);
            }
            if (trees.getElement(getCurrentPath()) instanceof ExecutableElement made) {
                CHECK.that("new " + made, made.getEnclosingElement().toString().startsWith("MarkChains"));
                note(made, tree);
            }
            return super.visitNewClass(tree, none);
        }

        // ---- rules 2, 6, 9, 10: what may not stand

        @Override
        public Void visitLambdaExpression(LambdaExpressionTree tree, Void none) {
            forbid("a lambda", tree);
            return super.visitLambdaExpression(tree, none);
        }

        @Override
        public Void visitMemberReference(MemberReferenceTree tree, Void none) {
            forbid("a method reference", tree);
            return super.visitMemberReference(tree, none);
        }

        @Override
        public Void visitThrow(ThrowTree tree, Void none) {
            forbid("throw", tree);
            return super.visitThrow(tree, none);
        }

        @Override
        public Void visitTry(TryTree tree, Void none) {
            forbid("try", tree);
            return super.visitTry(tree, none);
        }

        @Override
        public Void visitSynchronized(SynchronizedTree tree, Void none) {
            forbid("synchronized", tree);
            return super.visitSynchronized(tree, none);
        }

        @Override
        public Void visitAssert(AssertTree tree, Void none) {
            forbid("assert", tree);
            return super.visitAssert(tree, none);
        }

        @Override
        public Void visitWhileLoop(WhileLoopTree tree, Void none) {
            if (tree.getCondition().toString().equals("(true)")) {
                forbid("a loop whose end can't be seen", tree);
            }
            return super.visitWhileLoop(tree, none);
        }

        @Override
        public Void visitBinary(BinaryTree tree, Void none) {
            boolean isText = tree.getLeftOperand() instanceof LiteralTree left && left.getKind() == Tree.Kind.STRING_LITERAL
                || tree.getRightOperand() instanceof LiteralTree right && right.getKind() == Tree.Kind.STRING_LITERAL;
            if (isText) {
                forbid("texts joined by + or held against one another by ==", tree);
            }
            return super.visitBinary(tree, none);
        }
    }
}

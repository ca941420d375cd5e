import com.sun.source.tree.*;
import com.sun.source.util.JavacTask;
import com.sun.source.util.TreePath;
import com.sun.source.util.TreePathScanner;
import com.sun.source.util.Trees;
import java.nio.file.Files;
import java.nio.file.Path;
import java.util.ArrayList;
import java.util.HashMap;
import java.util.HashSet;
import java.util.List;
import java.util.Map;
import java.util.Set;
import java.util.TreeSet;
import javax.lang.model.element.Element;
import javax.lang.model.element.ElementKind;
import javax.lang.model.element.ExecutableElement;
import javax.lang.model.element.Modifier;
import javax.lang.model.element.VariableElement;
import javax.lang.model.type.ArrayType;
import javax.lang.model.type.TypeKind;
import javax.lang.model.type.TypeMirror;
import javax.tools.JavaCompiler;
import javax.tools.StandardJavaFileManager;
import javax.tools.ToolProvider;

/**
 * The source keeps to the rules of ../shared/LANGUAGE.md that can be told from its tree, as the compiler sees it. What is
 * allowed here is what the class uses of the language, which is less than the rules leave: whoever uses more of it looks
 * the rule up and lets it through here.
 */
public final class LanguageTest {
    private static final String FILE = "src/main/java/LastPages.java";
    private static final int CALLS_DEEP = 8;
    private static final int CLASSES = 12;
    private static final int FIELDS = 20;
    private static final int PARAMETERS = 7;
    private static final int LINES = 60;

    private static final Set<Tree.Kind> KINDS = Set.of(
        Tree.Kind.COMPILATION_UNIT, Tree.Kind.IMPORT, Tree.Kind.CLASS, Tree.Kind.MODIFIERS, Tree.Kind.METHOD,
        Tree.Kind.VARIABLE, Tree.Kind.BLOCK, Tree.Kind.EXPRESSION_STATEMENT, Tree.Kind.RETURN, Tree.Kind.IF,
        Tree.Kind.FOR_LOOP, Tree.Kind.SWITCH, Tree.Kind.CASE, Tree.Kind.CONTINUE, Tree.Kind.PRIMITIVE_TYPE,
        Tree.Kind.ARRAY_TYPE, Tree.Kind.IDENTIFIER, Tree.Kind.MEMBER_SELECT, Tree.Kind.ARRAY_ACCESS,
        Tree.Kind.METHOD_INVOCATION, Tree.Kind.NEW_CLASS, Tree.Kind.NEW_ARRAY, Tree.Kind.PARENTHESIZED,
        Tree.Kind.TYPE_CAST, Tree.Kind.CONDITIONAL_EXPRESSION, Tree.Kind.ASSIGNMENT, Tree.Kind.PLUS_ASSIGNMENT,
        Tree.Kind.MINUS_ASSIGNMENT, Tree.Kind.AND_ASSIGNMENT, Tree.Kind.OR_ASSIGNMENT, Tree.Kind.XOR_ASSIGNMENT,
        Tree.Kind.POSTFIX_INCREMENT, Tree.Kind.POSTFIX_DECREMENT, Tree.Kind.UNARY_MINUS, Tree.Kind.LOGICAL_COMPLEMENT,
        Tree.Kind.BITWISE_COMPLEMENT, Tree.Kind.PLUS, Tree.Kind.MINUS, Tree.Kind.MULTIPLY, Tree.Kind.DIVIDE,
        Tree.Kind.REMAINDER, Tree.Kind.LEFT_SHIFT, Tree.Kind.RIGHT_SHIFT, Tree.Kind.AND, Tree.Kind.OR, Tree.Kind.XOR,
        Tree.Kind.CONDITIONAL_AND, Tree.Kind.CONDITIONAL_OR, Tree.Kind.EQUAL_TO, Tree.Kind.NOT_EQUAL_TO,
        Tree.Kind.LESS_THAN, Tree.Kind.LESS_THAN_EQUAL, Tree.Kind.GREATER_THAN, Tree.Kind.GREATER_THAN_EQUAL,
        Tree.Kind.INT_LITERAL, Tree.Kind.LONG_LITERAL, Tree.Kind.CHAR_LITERAL, Tree.Kind.BOOLEAN_LITERAL,
        Tree.Kind.STRING_LITERAL, Tree.Kind.NULL_LITERAL);
    private static final Set<String> LIBRARY = Set.of("java.lang.String.length", "java.lang.String.charAt",
        "java.lang.Math.min", "java.lang.Math.max", "java.lang.Integer.bitCount",
        "java.lang.Integer.numberOfTrailingZeros", "java.lang.System.arraycopy", "java.util.Arrays.fill");
    private static final Set<TypeKind> NUMBERS = Set.of(TypeKind.INT, TypeKind.LONG, TypeKind.BYTE, TypeKind.SHORT,
        TypeKind.CHAR);

    private final Trees trees;
    private final CompilationUnitTree unit;
    private final Set<String> classes = new TreeSet<>();
    private final Map<Element, Set<Element>> calls = new HashMap<>();

    private LanguageTest(Trees trees, CompilationUnitTree unit) {
        this.trees = trees;
        this.unit = unit;
    }

    public static void main(String[] args) throws Exception {
        JavaCompiler compiler = ToolProvider.getSystemJavaCompiler();
        try (StandardJavaFileManager files = compiler.getStandardFileManager(null, null, null)) {
            JavacTask task = (JavacTask) compiler.getTask(null, files, null, List.of("-proc:none"), null,
                files.getJavaFileObjects(FILE));
            List<CompilationUnitTree> units = new ArrayList<>();
            task.parse().forEach(units::add);
            task.analyze();
            Checks.due("one file", units.size(), 1);
            LanguageTest test = new LanguageTest(Trees.instance(task), units.get(0));
            test.file();
            test.tree();
            test.depth();
        }
        Checks.end();
    }

    private void file() throws Exception {
        Checks.due("signs 10 and 32 to 126 alone", Files.readString(Path.of(FILE)).matches("[\\n -~]*"), true);
        Checks.due("rule 1: no package", unit.getPackageName() == null, true);
        for (ImportTree one : unit.getImports()) {
            Checks.due("rule 4: import " + one, !one.isStatic() && one.getQualifiedIdentifier().toString().equals("java.util.Arrays"), true);
        }
        Checks.due("rule 1: one class with all others inside it", unit.getTypeDecls().size(), 1);
    }

    private void tree() {
        new Walk().scan(unit, null);
        Checks.due("rule 11: classes, " + classes, classes.size() <= CLASSES, true);
    }

    /** Rules 8 and 11: no call comes back to itself, and none stands more than eight calls deep. */
    private void depth() {
        Map<Element, Integer> deep = new HashMap<>();
        for (Element one : calls.keySet()) {
            int most = deepest(one, deep, new HashSet<>());
            Checks.due("rule 11: calls deep from " + one + ": " + most, most <= CALLS_DEEP, true);
        }
    }

    private int deepest(Element method, Map<Element, Integer> deep, Set<Element> open) {
        if (deep.containsKey(method)) {
            return deep.get(method);
        }
        Checks.due("rule 8: no recursion by " + method, open.add(method), true);
        int most = 0;
        for (Element called : calls.getOrDefault(method, Set.of())) {
            most = Math.max(most, open.contains(called) ? CALLS_DEEP : deepest(called, deep, open));
        }
        open.remove(method);
        deep.put(method, method.getKind() == ElementKind.CLASS ? most : most + 1);
        return deep.get(method);
    }

    private final class Walk extends TreePathScanner<Void, Void> {
        /** The method at hand; the class, where the first value of a field is told. */
        private Element within = null;

        private String at(Tree tree) {
            long place = trees.getSourcePositions().getStartPosition(unit, tree);
            return " (line " + unit.getLineMap().getLineNumber(place) + ")";
        }

        private Element element(Tree tree) {
            return trees.getElement(new TreePath(getCurrentPath(), tree));
        }

        private TypeMirror type(Tree tree) {
            return trees.getTypeMirror(new TreePath(getCurrentPath(), tree));
        }

        @Override
        public Void scan(Tree tree, Void nothing) {
            if (tree != null) {
                Checks.due("rules 2, 6, 10: " + tree.getKind() + at(tree), KINDS.contains(tree.getKind()), true);
            }
            return super.scan(tree, nothing);
        }

        @Override
        public Void visitClass(ClassTree tree, Void nothing) {
            Element it = trees.getElement(getCurrentPath());
            boolean isInside = !classes.isEmpty();
            classes.add(tree.getSimpleName().toString());
            Checks.due("rules 1, 2: final, static inside: " + tree.getSimpleName(), it.getModifiers().contains(Modifier.FINAL)
                && it.getModifiers().contains(Modifier.STATIC) == isInside
                && it.getModifiers().contains(isInside ? Modifier.PRIVATE : Modifier.PUBLIC), true);
            Checks.due("rule 2: extends nothing: " + tree.getSimpleName(), tree.getExtendsClause() == null
                && tree.getImplementsClause().isEmpty() && tree.getTypeParameters().isEmpty(), true);
            int fields = 0;
            for (Tree member : tree.getMembers()) {
                Checks.due("rule 5: no block among the members" + at(member), member.getKind() != Tree.Kind.BLOCK, true);
                Element e = element(member);
                fields += e instanceof VariableElement && !e.getModifiers().contains(Modifier.STATIC) ? 1 : 0;
            }
            Checks.due("rule 11: fields of " + tree.getSimpleName() + ": " + fields, fields <= FIELDS, true);
            Element before = within;
            within = it;
            super.visitClass(tree, nothing);
            within = before;
            return null;
        }

        @Override
        public Void visitMethod(MethodTree tree, Void nothing) {
            Element before = within;
            within = trees.getElement(getCurrentPath());
            calls.computeIfAbsent(within, e -> new HashSet<>());
            if (within.getKind() == ElementKind.CONSTRUCTOR) {
                callFrom(within.getEnclosingElement());
            }
            Checks.due("rule 6: throws nothing: " + within, tree.getThrows().isEmpty(), true);
            Checks.due("rule 6: " + within, Set.of("equals", "hashCode", "toString").contains(tree.getName().toString()), false);
            Checks.due("rule 11: parameters of " + within, tree.getParameters().size() <= PARAMETERS, true);
            Checks.due("rule 2: no types of its own: " + within, tree.getTypeParameters().isEmpty(), true);
            Set<Modifier> others = new HashSet<>(within.getModifiers());
            others.removeAll(Set.of(Modifier.PUBLIC, Modifier.PRIVATE, Modifier.STATIC));
            Checks.due("rules 1, 2: words ahead of " + within + ": " + others, others.isEmpty(), true);
            Checks.due("rule 11: lines of " + within + ": " + lines(tree), lines(tree) <= LINES, true);
            super.visitMethod(tree, nothing);
            within = before;
            return null;
        }

        private long lines(Tree tree) {
            long first = trees.getSourcePositions().getStartPosition(unit, tree);
            long last = trees.getSourcePositions().getEndPosition(unit, tree);
            return last < 0 ? 0 : unit.getLineMap().getLineNumber(last) - unit.getLineMap().getLineNumber(first) + 1;
        }

        @Override
        public Void visitVariable(VariableTree tree, Void nothing) {
            VariableElement it = (VariableElement) trees.getElement(getCurrentPath());
            boolean isField = it.getKind() == ElementKind.FIELD;
            Checks.due("rule 3: the type of " + it + at(tree), isAllowed(it.asType(), isField), true);
            if (isField && it.getModifiers().contains(Modifier.STATIC)) {
                Checks.due("rule 5: constant " + it, it.getModifiers().contains(Modifier.FINAL)
                    && it.getConstantValue() != null, true);
            }
            return super.visitVariable(tree, nothing);
        }

        private boolean isAllowed(TypeMirror type, boolean isField) {
            if (type.getKind() == TypeKind.ARRAY) {
                TypeMirror part = ((ArrayType) type).getComponentType();
                return NUMBERS.contains(part.getKind()) || isField && isOwn(part);
            }
            return NUMBERS.contains(type.getKind()) || type.getKind() == TypeKind.BOOLEAN || isOwn(type)
                || type.toString().equals("java.lang.String");
        }

        private boolean isOwn(TypeMirror type) {
            return type.getKind() == TypeKind.DECLARED && type.toString().matches("LastPages(\\.\\w+)?");
        }

        @Override
        public Void visitMethodInvocation(MethodInvocationTree tree, Void nothing) {
            Element called = element(tree.getMethodSelect());
            String name = called.getEnclosingElement() + "." + called.getSimpleName();
            boolean isSuper = tree.getMethodSelect().toString().equals("super");
            if (!isSuper && name.startsWith("LastPages")) {
                callFrom(called);
            } else if (!isSuper) {
                Checks.due("rule 4: " + name + at(tree), LIBRARY.contains(name), true);
            }
            return super.visitMethodInvocation(tree, nothing);
        }

        private void callFrom(Element called) {
            calls.computeIfAbsent(within, e -> new HashSet<>()).add(called);
        }

        /** The class makes all its objects and rows in constructors and first values, so no call makes any. */
        @Override
        public Void visitNewClass(NewClassTree tree, Void nothing) {
            Checks.due("rule 2: no class without a name" + at(tree), tree.getClassBody() == null, true);
            Checks.due("made in a call" + at(tree), isMadeOnce(), true);
            Checks.due("rule 4: an object of the library" + at(tree), isOwn(type(tree)), true);
            callFrom(trees.getElement(getCurrentPath()));
            return super.visitNewClass(tree, nothing);
        }

        @Override
        public Void visitNewArray(NewArrayTree tree, Void nothing) {
            Checks.due("made in a call" + at(tree), isMadeOnce(), true);
            return super.visitNewArray(tree, nothing);
        }

        private boolean isMadeOnce() {
            return within.getKind() == ElementKind.CLASS || within.getKind() == ElementKind.CONSTRUCTOR;
        }

        @Override
        public Void visitBinary(BinaryTree tree, Void nothing) {
            boolean isOfTexts = isText(tree.getLeftOperand()) || isText(tree.getRightOperand());
            Checks.due("rules 6, 10: no texts in + == !=" + at(tree), isOfTexts, false);
            return super.visitBinary(tree, nothing);
        }

        private boolean isText(Tree tree) {
            return type(tree).toString().equals("java.lang.String");
        }

        @Override
        public Void visitForLoop(ForLoopTree tree, Void nothing) {
            Checks.due("rule 9: a loop has an end" + at(tree), tree.getCondition() != null
                && tree.getInitializer().size() == 1 && tree.getUpdate().size() == 1, true);
            return super.visitForLoop(tree, nothing);
        }

        @Override
        public Void visitSwitch(SwitchTree tree, Void nothing) {
            Checks.due("rule 10: switch on numbers" + at(tree), type(tree.getExpression()).getKind() == TypeKind.INT, true);
            return super.visitSwitch(tree, nothing);
        }
    }
}

import com.sun.source.tree.AssertTree;
import com.sun.source.tree.BinaryTree;
import com.sun.source.tree.BlockTree;
import com.sun.source.tree.ClassTree;
import com.sun.source.tree.CompilationUnitTree;
import com.sun.source.tree.DoWhileLoopTree;
import com.sun.source.tree.ExpressionTree;
import com.sun.source.tree.ForLoopTree;
import com.sun.source.tree.IdentifierTree;
import com.sun.source.tree.InstanceOfTree;
import com.sun.source.tree.LambdaExpressionTree;
import com.sun.source.tree.LiteralTree;
import com.sun.source.tree.MemberReferenceTree;
import com.sun.source.tree.MethodInvocationTree;
import com.sun.source.tree.MethodTree;
import com.sun.source.tree.NewArrayTree;
import com.sun.source.tree.NewClassTree;
import com.sun.source.tree.SynchronizedTree;
import com.sun.source.tree.ThrowTree;
import com.sun.source.tree.Tree;
import com.sun.source.tree.TryTree;
import com.sun.source.tree.TypeCastTree;
import com.sun.source.tree.VariableTree;
import com.sun.source.tree.WhileLoopTree;
import com.sun.source.util.JavacTask;
import com.sun.source.util.TreePathScanner;
import com.sun.source.util.Trees;
import java.io.IOException;
import java.nio.file.Files;
import java.nio.file.Path;
import java.util.HashMap;
import java.util.HashSet;
import java.util.List;
import java.util.Map;
import java.util.Set;
import java.util.TreeMap;
import java.util.TreeSet;
import javax.lang.model.element.Element;
import javax.lang.model.element.ElementKind;
import javax.lang.model.element.ExecutableElement;
import javax.lang.model.element.Modifier;
import javax.lang.model.type.ArrayType;
import javax.lang.model.type.TypeKind;
import javax.lang.model.type.TypeMirror;
import javax.tools.JavaCompiler;
import javax.tools.StandardJavaFileManager;
import javax.tools.ToolProvider;

/** ../shared/LANGUAGE.md, rule by rule, as far as it can be seen in the class's text; FaceTest looks at the face of rule 1. */
public final class LanguageTest extends TreePathScanner<Void, Void> {
    private static final Path SOURCE = Path.of("src/main/java/CliffJudges.java");
    // Of what rule 4 lists, and of nothing else.
    private static final Set<String> LIBRARY = Set.of("String.length", "String.charAt", "String.isEmpty", "String.equals", "String.indexOf",
        "String.substring", "String.toCharArray", "Math.abs", "Math.min", "Math.max", "Integer.bitCount", "System.arraycopy", "Arrays.fill",
        "Arrays.copyOf", "Arrays.copyOfRange", "Object.<init>");
    private static final Set<TypeKind> NUMBERS = Set.of(TypeKind.INT, TypeKind.LONG, TypeKind.SHORT, TypeKind.BYTE, TypeKind.CHAR, TypeKind.BOOLEAN);
    private static final Set<TypeKind> CONSTANTS = Set.of(TypeKind.INT, TypeKind.LONG, TypeKind.CHAR, TypeKind.BOOLEAN);
    private static final int MOST_LINES = 60;
    private static final int MOST_PARAMETERS = 7;
    private static final int MOST_CLASSES = 12;
    private static final int MOST_FIELDS = 20;
    private static final int DEEPEST = 8;

    private final Due due = new Due();
    private final Trees trees;
    private final CompilationUnitTree unit;
    // Of each method those that it calls, by name and class.
    private final Map<String, Set<String>> calls = new TreeMap<>();
    private final Map<String, ExecutableElement> methods = new HashMap<>();
    private String method = "";
    private boolean making = true;
    private int classes;

    private LanguageTest(Trees trees, CompilationUnitTree unit) {
        this.trees = trees;
        this.unit = unit;
    }

    public static void main(String[] args) throws IOException {
        JavaCompiler compiler = ToolProvider.getSystemJavaCompiler();
        try (StandardJavaFileManager files = compiler.getStandardFileManager(null, null, null)) {
            JavacTask task = (JavacTask) compiler.getTask(null, files, null, List.of("-proc:none"), null, files.getJavaFileObjects(SOURCE));
            CompilationUnitTree unit = task.parse().iterator().next();
            task.analyze();
            new LanguageTest(Trees.instance(task), unit).look();
        }
    }

    private void look() throws IOException {
        String source = Files.readString(SOURCE);
        due.yes("the text is of signs 10, 32 .. 126", source.matches("[\n -~]*"));
        due.yes("no package, no import", unit.getPackageName() == null && unit.getImports().isEmpty());
        due.same("1: classes that are not inside", unit.getTypeDecls().size(), 1);
        scan(unit, null);
        due.yes("11: " + classes + " classes", classes <= MOST_CLASSES);
        due.yes("methods were looked at: " + calls.size(), calls.size() > 100);
        lookAtRecursion();
        due.close();
    }

    private String at(Tree tree) {
        return "line " + unit.getLineMap().getLineNumber(trees.getSourcePositions().getStartPosition(unit, tree));
    }

    private long lines(Tree tree) {
        long start = unit.getLineMap().getLineNumber(trees.getSourcePositions().getStartPosition(unit, tree));
        return unit.getLineMap().getLineNumber(trees.getSourcePositions().getEndPosition(unit, tree)) - start + 1;
    }

    private void never(String what, Tree tree) {
        due.no(what + " in " + at(tree), true);
    }

    private static String nameOf(Element called) {
        return called.getEnclosingElement().getSimpleName() + "." + called.getSimpleName();
    }

    /** Whether a class or a member of one stands in this file. */
    private static boolean isOwn(Element element) {
        Element outer = element;
        while (outer.getEnclosingElement() != null && outer.getEnclosingElement().getKind() != ElementKind.PACKAGE) {
            outer = outer.getEnclosingElement();
        }
        return outer.getSimpleName().contentEquals("CliffJudges");
    }

    private Element element() {
        return trees.getElement(getCurrentPath());
    }

    private TypeMirror typeOf(ExpressionTree tree) {
        return trees.getTypeMirror(new com.sun.source.util.TreePath(getCurrentPath(), tree));
    }

    @Override
    public Void visitClass(ClassTree tree, Void none) {
        classes++;
        boolean outer = classes == 1;
        Set<Modifier> marks = tree.getModifiers().getFlags();
        due.yes("2: a class, no other sort: " + tree.getSimpleName(), tree.getKind() == Tree.Kind.CLASS && tree.getTypeParameters().isEmpty());
        due.yes("1: final: " + tree.getSimpleName(), marks.contains(Modifier.FINAL));
        due.yes("2: static inside: " + tree.getSimpleName(), outer || marks.contains(Modifier.STATIC) && marks.contains(Modifier.PRIVATE));
        due.yes("2: not within a method", method.isEmpty());
        due.yes("2: extends nothing", tree.getExtendsClause() == null && tree.getImplementsClause().isEmpty());
        int fields = 0;
        for (Tree member : tree.getMembers()) {
            due.no("5: no block beside methods in " + at(member), member instanceof BlockTree);
            if (member instanceof VariableTree field && !field.getModifiers().getFlags().contains(Modifier.STATIC)) {
                fields++;
            }
        }
        due.yes("11: fields of " + tree.getSimpleName() + ": " + fields, fields <= MOST_FIELDS);
        return super.visitClass(tree, none);
    }

    @Override
    public Void visitMethod(MethodTree tree, Void none) {
        ExecutableElement element = (ExecutableElement) element();
        method = nameOf(element);
        making = element.getKind() == ElementKind.CONSTRUCTOR;
        due.no("a name twice: " + method, methods.containsKey(method));
        methods.put(method, element);
        calls.put(method, new TreeSet<>());
        due.yes("11: parameters of " + method, tree.getParameters().size() <= MOST_PARAMETERS);
        due.yes("11: lines of " + method, lines(tree) <= MOST_LINES);
        due.yes("6: throws nothing: " + method, tree.getThrows().isEmpty());
        due.yes("no method of its own parameters: " + method, tree.getTypeParameters().isEmpty());
        if (tree.getReturnType() != null && element.getReturnType().getKind() != TypeKind.VOID) {
            lookAtType(element.getReturnType(), tree);
        }
        super.visitMethod(tree, none);
        method = "";
        making = true;
        return null;
    }

    /** Rule 3: numbers, own classes, String; rows of these, tables of numbers. */
    private void lookAtType(TypeMirror type, Tree tree) {
        boolean good;
        if (type.getKind() == TypeKind.ARRAY) {
            TypeMirror of = ((ArrayType) type).getComponentType();
            boolean table = of.getKind() == TypeKind.ARRAY && NUMBERS.contains(((ArrayType) of).getComponentType().getKind());
            good = table || NUMBERS.contains(of.getKind()) || isOwnType(of);
        } else {
            good = NUMBERS.contains(type.getKind()) || isOwnType(type) || type.toString().equals("java.lang.String");
        }
        due.yes("3: the type " + type + " in " + at(tree), good);
    }

    private static boolean isOwnType(TypeMirror type) {
        return type.toString().matches("CliffJudges(\\.[A-Za-z]+)?");
    }

    @Override
    public Void visitVariable(VariableTree tree, Void none) {
        Element element = element();
        lookAtType(element.asType(), tree);
        if (element.getKind() == ElementKind.FIELD && element.getModifiers().contains(Modifier.STATIC)) {
            due.yes("5: final: " + nameOf(element), element.getModifiers().contains(Modifier.FINAL));
            TypeMirror type = element.asType();
            boolean constant = CONSTANTS.contains(type.getKind()) || type.toString().equals("java.lang.String");
            due.yes("5: a constant: " + nameOf(element), constant && ((javax.lang.model.element.VariableElement) element).getConstantValue() != null);
        }
        return super.visitVariable(tree, none);
    }

    @Override
    public Void visitMethodInvocation(MethodInvocationTree tree, Void none) {
        Element called = element();
        if (isOwn(called)) {
            calls.computeIfAbsent(method, name -> new TreeSet<>()).add(nameOf(called));
        } else {
            due.yes("4: " + nameOf(called) + " in " + at(tree), LIBRARY.contains(nameOf(called)));
        }
        return super.visitMethodInvocation(tree, none);
    }

    @Override
    public Void visitNewClass(NewClassTree tree, Void none) {
        due.yes("2: no class without a name in " + at(tree), tree.getClassBody() == null);
        due.yes("12: made by a constructor, in " + at(tree), making);
        Element made = element();
        due.yes("4: a class of its own in " + at(tree), isOwn(made));
        calls.computeIfAbsent(method, name -> new TreeSet<>()).add(nameOf(made));
        return super.visitNewClass(tree, none);
    }

    @Override
    public Void visitNewArray(NewArrayTree tree, Void none) {
        due.yes("12: made by a constructor, in " + at(tree), making);
        for (ExpressionTree length : tree.getDimensions()) {
            due.yes("7: a length of constants in " + at(tree), length.toString().matches("([A-Z][a-z]+\\.)?[A-Z_]+|[A-Z_0-9 +*()]+"));
        }
        return super.visitNewArray(tree, none);
    }

    @Override
    public Void visitLiteral(LiteralTree tree, Void none) {
        due.no("null in " + at(tree), tree.getKind() == Tree.Kind.NULL_LITERAL);
        if (tree.getKind() == Tree.Kind.STRING_LITERAL) {
            due.yes("4: signs 1 .. 127 in " + at(tree), ((String) tree.getValue()).matches("[\\x01-\\x7f]*"));
        }
        return super.visitLiteral(tree, none);
    }

    @Override
    public Void visitBinary(BinaryTree tree, Void none) {
        boolean texts = typeOf(tree.getLeftOperand()).toString().equals("java.lang.String")
            || typeOf(tree.getRightOperand()).toString().equals("java.lang.String");
        due.no("6, 10: texts joined or compared in " + at(tree), texts);
        return super.visitBinary(tree, none);
    }

    @Override
    public Void visitTypeCast(TypeCastTree tree, Void none) {
        due.yes("6: a cast to a number in " + at(tree), tree.getType().getKind() == Tree.Kind.PRIMITIVE_TYPE);
        return super.visitTypeCast(tree, none);
    }

    @Override
    public Void visitForLoop(ForLoopTree tree, Void none) {
        due.yes("9: a bound in " + at(tree), tree.getCondition() != null && tree.getCondition().toString().matches(".*(<|>).*"));
        due.yes("9: a step in " + at(tree), tree.getUpdate().size() == 1 && tree.getUpdate().get(0).toString().matches(".*(\\+\\+|--|\\+=|-=).*"));
        return super.visitForLoop(tree, none);
    }

    @Override
    public Void visitWhileLoop(WhileLoopTree tree, Void none) {
        String condition = tree.getCondition().toString();
        String counter = condition.replaceAll("^\\(*([A-Za-z]+) (<|>|<=|>=) .*$", "$1");
        due.no("9: a counter against a bound in " + at(tree), counter.equals(condition));
        due.yes("9: a step in " + at(tree), tree.getStatement().toString().matches("(?s).*\\b" + counter + "(\\+\\+|--);.*"));
        return super.visitWhileLoop(tree, none);
    }

    @Override
    public Void visitDoWhileLoop(DoWhileLoopTree tree, Void none) {
        never("do", tree);
        return super.visitDoWhileLoop(tree, none);
    }

    @Override
    public Void visitLambdaExpression(LambdaExpressionTree tree, Void none) {
        never("2: a lambda", tree);
        return super.visitLambdaExpression(tree, none);
    }

    @Override
    public Void visitMemberReference(MemberReferenceTree tree, Void none) {
        never("2: a method reference", tree);
        return super.visitMemberReference(tree, none);
    }

    @Override
    public Void visitThrow(ThrowTree tree, Void none) {
        never("6: throw", tree);
        return super.visitThrow(tree, none);
    }

    @Override
    public Void visitTry(TryTree tree, Void none) {
        never("6: try", tree);
        return super.visitTry(tree, none);
    }

    @Override
    public Void visitSynchronized(SynchronizedTree tree, Void none) {
        never("6: synchronized", tree);
        return super.visitSynchronized(tree, none);
    }

    @Override
    public Void visitAssert(AssertTree tree, Void none) {
        never("6: assert", tree);
        return super.visitAssert(tree, none);
    }

    @Override
    public Void visitInstanceOf(InstanceOfTree tree, Void none) {
        never("instanceof", tree);
        return super.visitInstanceOf(tree, none);
    }

    @Override
    public Void visitIdentifier(IdentifierTree tree, Void none) {
        Element element = element();
        if (element != null && element.getKind() == ElementKind.CLASS && !isOwn(element)) {
            boolean listed = Set.of("String", "Math", "Integer", "Long", "System", "Arrays").contains(element.getSimpleName().toString());
            due.yes("4, 13: " + element + " in " + at(tree), listed);
        }
        return super.visitIdentifier(tree, none);
    }

    /** Rule 8: recursion goes by private methods with a depth; rule 11: else calls go at most eight deep. */
    private void lookAtRecursion() {
        Set<String> recursive = new TreeSet<>();
        for (String name : calls.keySet()) {
            if (reached(name).contains(name)) {
                recursive.add(name);
                ExecutableElement element = methods.get(name);
                due.yes("8: private: " + name, element.getModifiers().contains(Modifier.PRIVATE));
                boolean depth = !element.getParameters().isEmpty() && element.getParameters().get(0).asType().getKind() == TypeKind.INT;
                due.yes("8: a depth as the first argument: " + name, depth);
            }
        }
        int deepest = 0;
        for (String name : calls.keySet()) {
            deepest = Math.max(deepest, depthOf(name, recursive));
        }
        due.yes("11: calls go " + deepest + " deep", deepest <= DEEPEST);
    }

    private Set<String> reached(String name) {
        Set<String> all = new HashSet<>();
        Set<String> edge = new HashSet<>(calls.getOrDefault(name, Set.of()));
        while (!edge.isEmpty()) {
            all.addAll(edge);
            Set<String> next = new HashSet<>();
            for (String one : edge) {
                next.addAll(calls.getOrDefault(one, Set.of()));
            }
            next.removeAll(all);
            edge = next;
        }
        return all;
    }

    /** How many calls stand open at once, those of one recursion counted as one. */
    private int depthOf(String name, Set<String> recursive) {
        Set<String> circle = new HashSet<>(Set.of(name));
        if (recursive.contains(name)) {
            for (String other : reached(name)) {
                if (reached(other).contains(name)) {
                    circle.add(other);
                }
            }
        }
        int most = 0;
        for (String one : circle) {
            for (String called : calls.getOrDefault(one, Set.of())) {
                if (!circle.contains(called)) {
                    most = Math.max(most, depthOf(called, recursive));
                }
            }
        }
        return most + 1;
    }
}

import com.sun.source.tree.ClassTree;
import com.sun.source.tree.CompilationUnitTree;
import com.sun.source.tree.IdentifierTree;
import com.sun.source.tree.ImportTree;
import com.sun.source.tree.MemberSelectTree;
import com.sun.source.tree.MethodInvocationTree;
import com.sun.source.tree.MethodTree;
import com.sun.source.tree.NewClassTree;
import com.sun.source.tree.Tree;
import com.sun.source.tree.TypeParameterTree;
import com.sun.source.tree.VariableTree;
import com.sun.source.util.JavacTask;
import com.sun.source.util.TreeScanner;
import com.sun.source.util.Trees;
import java.io.IOException;
import java.util.HashMap;
import java.util.HashSet;
import java.util.List;
import java.util.Map;
import java.util.Set;
import java.util.TreeSet;
import javax.lang.model.element.Modifier;
import javax.tools.JavaCompiler;
import javax.tools.StandardJavaFileManager;
import javax.tools.ToolProvider;

/**
 * CollegeHouse.java keeps to ../shared/LANGUAGE.md, as far as its tree tells; each finding bears the rule's number.
 * Where the rules say "some", a little more is let pass.
 */
public final class LanguageTest extends TreeScanner<Void, Void> {
    private static final String FILE = "src/main/java/CollegeHouse.java";
    private static final Set<String> IMPORTS = Set.of("java.util.Arrays", "java.util.ArrayList", "java.util.List",
        "java.util.Iterator");
    private static final Set<String> LIBRARY = Set.of("Arrays.fill", "Arrays.copyOf", "Arrays.copyOfRange",
        "System.arraycopy", "List.of");
    private static final Set<String> NUMBERS = Set.of("Math", "Integer", "Long");
    private static final Set<String> MADE = Set.of("ArrayList", "StringBuilder", "String");
    private static final Set<String> TYPES = Set.of("int", "long", "short", "byte", "char", "boolean", "double",
        "float", "void", "String", "StringBuilder", "Integer", "ArrayList", "List", "Iterator", "Iterable",
        "Comparable");
    private static final Set<Tree.Kind> FORBIDDEN = Set.of(Tree.Kind.THROW, Tree.Kind.TRY, Tree.Kind.CATCH,
        Tree.Kind.SYNCHRONIZED, Tree.Kind.ASSERT, Tree.Kind.LAMBDA_EXPRESSION, Tree.Kind.MEMBER_REFERENCE);

    private final Trees trees;
    private final CompilationUnitTree unit;
    private final Set<String> types = new HashSet<>(TYPES);
    private final Set<String> classes = new HashSet<>();
    private final Set<String> fields = new HashSet<>();
    private final Set<String> publicNames = new HashSet<>();
    private final Set<String> methods = new HashSet<>();
    private final Map<String, Set<String>> calls = new HashMap<>();
    private ClassTree inClass;
    private MethodTree inMethod;

    private LanguageTest(Trees trees, CompilationUnitTree unit) {
        this.trees = trees;
        this.unit = unit;
    }

    public static void main(String[] args) throws IOException {
        JavaCompiler compiler = ToolProvider.getSystemJavaCompiler();
        try (StandardJavaFileManager files = compiler.getStandardFileManager(null, null, null)) {
            JavacTask task = (JavacTask) compiler.getTask(null, files, null, null, null,
                files.getJavaFileObjects(FILE));
            CompilationUnitTree unit = task.parse().iterator().next();
            LanguageTest test = new LanguageTest(Trees.instance(task), unit);
            test.readNames();
            test.scan(unit, null);
            test.checkCalls();
            Checks.due("the methods were read", test.methods.size() >= test.publicNames.size() ? 1 : 0, 1);
            Checks.due("the face was read", test.publicNames.size() >= 58 ? 1 : 0, 1);
        }
        Checks.end();
    }

    private void readNames() {
        ClassTree outer = (ClassTree) unit.getTypeDecls().get(0);
        Checks.due("1: classes at the top", unit.getTypeDecls().size(), 1);
        Checks.due("1: no package line", unit.getPackageName() == null ? 1 : 0, 1);
        readNamesOf(outer);
        for (Tree member : outer.getMembers()) {
            if (member instanceof ClassTree c) {
                readNamesOf(c);
            }
            if (member instanceof MethodTree m && m.getModifiers().getFlags().contains(Modifier.PUBLIC)) {
                publicNames.add(m.getName().toString());
            }
        }
        publicNames.remove("<init>");
        types.addAll(classes);
        Checks.due("11: some twelve classes", classes.size() <= 15 ? 1 : 0, 1);
        for (ImportTree one : unit.getImports()) {
            String name = one.getQualifiedIdentifier().toString();
            Checks.due("4: import " + name, IMPORTS.contains(name) ? 1 : 0, 1);
        }
    }

    private void readNamesOf(ClassTree one) {
        classes.add(one.getSimpleName().toString());
        for (TypeParameterTree parameter : one.getTypeParameters()) {
            types.add(parameter.getName().toString());
        }
        for (Tree member : one.getMembers()) {
            if (member instanceof VariableTree v) {
                fields.add(v.getName().toString());
            }
        }
    }

    private long lineOf(Tree tree, boolean end) {
        long at = end ? trees.getSourcePositions().getEndPosition(unit, tree)
            : trees.getSourcePositions().getStartPosition(unit, tree);
        return unit.getLineMap().getLineNumber(at);
    }

    private void wrong(Tree tree, String what) {
        Checks.fail(FILE + ":" + lineOf(tree, false) + ": " + what);
    }

    @Override
    public Void scan(Tree tree, Void p) {
        if (tree != null && FORBIDDEN.contains(tree.getKind())) {
            wrong(tree, "6: " + tree.getKind());
        }
        return super.scan(tree, p);
    }

    @Override
    public Void visitClass(ClassTree tree, Void p) {
        ClassTree around = inClass;
        Set<Modifier> flags = tree.getModifiers().getFlags();
        boolean isStatic = flags.contains(Modifier.STATIC) || tree.getKind() != Tree.Kind.CLASS;
        if (inMethod != null || around != null && (!isStatic || flags.contains(Modifier.PUBLIC)
                || flags.contains(Modifier.PROTECTED))) {
            wrong(tree, "1, 2: a class inside that is local, not static, or public");
        }
        int ownFields = 0;
        for (Tree member : tree.getMembers()) {
            if (member instanceof VariableTree v && !v.getModifiers().getFlags().contains(Modifier.STATIC)) {
                ownFields++;
            }
            if (member.getKind() == Tree.Kind.BLOCK) {
                wrong(member, "5: an initialiser block");
            }
        }
        if (ownFields > 25 && tree.getKind() == Tree.Kind.CLASS) {
            wrong(tree, "11: " + ownFields + " fields");
        }
        inClass = tree;
        super.visitClass(tree, p);
        inClass = around;
        return null;
    }

    @Override
    public Void visitMethod(MethodTree tree, Void p) {
        String name = tree.getName().toString();
        boolean isOuter = inClass.getSimpleName().contentEquals("CollegeHouse");
        boolean isPublic = tree.getModifiers().getFlags().contains(Modifier.PUBLIC);
        if (isOuter && !isPublic && publicNames.contains(name)) {
            wrong(tree, "1: " + name + " bears the name of a public method");
        }
        if (isOuter && !isPublic && !tree.getModifiers().getFlags().contains(Modifier.PRIVATE)) {
            wrong(tree, "1: " + name + " is neither public nor private");
        }
        if (Set.of("equals", "hashCode", "toString").contains(name)) {
            wrong(tree, "6: " + name);
        }
        if (tree.getParameters().size() > 7) {
            wrong(tree, "11: more than seven parameters");
        }
        if (lineOf(tree, true) - lineOf(tree, false) >= 70) {
            wrong(tree, "11: more than some sixty lines");
        }
        inMethod = tree;
        methods.add(key());
        super.visitMethod(tree, p);
        inMethod = null;
        return null;
    }

    private String key() {
        return inClass.getSimpleName() + "." + inMethod.getName();
    }

    @Override
    public Void visitVariable(VariableTree tree, Void p) {
        String type = String.valueOf(tree.getType());
        String plain = type.replaceAll("<.*>|\\[\\]", "");
        boolean isNumber = plain.matches("int|long|short|byte|char|boolean|double|float");
        if (!types.contains(plain) || !isNumber && type.endsWith("[][]") || type.endsWith("[][][]")) {
            wrong(tree, "3: type " + type);
        }
        Set<Modifier> flags = tree.getModifiers().getFlags();
        if (inMethod == null && flags.contains(Modifier.STATIC) && inClass.getKind() == Tree.Kind.CLASS
                && (!flags.contains(Modifier.FINAL) || tree.getInitializer() == null)) {
            wrong(tree, "5: a static field that is no constant");
        }
        if (inMethod == null && inClass.getSimpleName().contentEquals("CollegeHouse")
                && !flags.contains(Modifier.PRIVATE) && !tree.getName().contentEquals("NONE")) {
            wrong(tree, "1: a field that is not private");
        }
        return super.visitVariable(tree, p);
    }

    @Override
    public Void visitNewClass(NewClassTree tree, Void p) {
        String made = tree.getIdentifier().toString().replaceAll("<.*>", "");
        if (tree.getClassBody() != null || !classes.contains(made) && !MADE.contains(made)) {
            wrong(tree, "2, 4: new " + tree.getIdentifier());
        }
        return super.visitNewClass(tree, p);
    }

    @Override
    public Void visitMethodInvocation(MethodInvocationTree tree, Void p) {
        String called = tree.getMethodSelect().toString();
        Set<String> from = inMethod == null ? new HashSet<>() : calls.computeIfAbsent(key(), k -> new TreeSet<>());
        if (tree.getMethodSelect() instanceof IdentifierTree) {
            from.add(inClass.getSimpleName() + "." + called);
        } else if (tree.getMethodSelect() instanceof MemberSelectTree select) {
            from.add("*." + select.getIdentifier());
            checkLibrary(tree, select);
        }
        return super.visitMethodInvocation(tree, p);
    }

    private void checkLibrary(Tree tree, MemberSelectTree select) {
        String of = select.getExpression().toString();
        boolean isClass = of.matches("[A-Z]\\w*|java\\..*") && !classes.contains(of) && !fields.contains(of);
        String called = select.toString();
        boolean isOfNumbers = NUMBERS.contains(of) && !called.endsWith("Exact");
        if (isClass && !isOfNumbers && !LIBRARY.contains(called)) {
            wrong(tree, "4: " + called);
        }
    }

    /** Calls that are no recursion go at most eight deep. A call on another object may be any of that name. */
    private void checkCalls() {
        for (String method : methods) {
            int depth = depthFrom(method, new HashSet<>());
            if (depth > 8) {
                Checks.fail("11: calls from " + method + " go " + depth + " deep");
            }
        }
    }

    private int depthFrom(String method, Set<String> open) {
        if (!open.add(method)) {
            return 0;
        }
        int deepest = 0;
        for (String call : calls.getOrDefault(method, Set.of())) {
            for (String other : methodsOf(call)) {
                deepest = Math.max(deepest, depthFrom(other, open));
            }
        }
        open.remove(method);
        return 1 + deepest;
    }

    private List<String> methodsOf(String call) {
        if (!call.startsWith("*.")) {
            return List.of(call);
        }
        return methods.stream().filter(m -> m.endsWith(call.substring(1)) && !m.startsWith("CollegeHouse.")).toList();
    }
}

import com.sun.source.tree.BinaryTree;
import com.sun.source.tree.BlockTree;
import com.sun.source.tree.ClassTree;
import com.sun.source.tree.CompilationUnitTree;
import com.sun.source.tree.ForLoopTree;
import com.sun.source.tree.ImportTree;
import com.sun.source.tree.LiteralTree;
import com.sun.source.tree.MethodInvocationTree;
import com.sun.source.tree.MethodTree;
import com.sun.source.tree.NewArrayTree;
import com.sun.source.tree.NewClassTree;
import com.sun.source.tree.ThrowTree;
import com.sun.source.tree.Tree;
import com.sun.source.tree.VariableTree;
import com.sun.source.util.JavacTask;
import com.sun.source.util.TreePathScanner;
import com.sun.source.util.Trees;
import java.nio.file.Path;
import java.util.ArrayList;
import java.util.HashSet;
import java.util.LinkedHashMap;
import java.util.LinkedHashSet;
import java.util.List;
import java.util.Map;
import java.util.Set;
import java.util.TreeMap;
import java.util.TreeSet;
import javax.lang.model.element.Element;
import javax.lang.model.element.ElementKind;
import javax.lang.model.element.ExecutableElement;
import javax.lang.model.element.Modifier;
import javax.lang.model.element.TypeElement;
import javax.lang.model.type.TypeMirror;
import javax.tools.JavaCompiler;
import javax.tools.StandardJavaFileManager;
import javax.tools.ToolProvider;

/** What the compiler tells of the class's source: its parts, with the lines on which they stand. */
final class Source extends TreePathScanner<Void, Void> {
    /** A method or constructor: where it stands, and what it calls of the file's own. */
    static final class Method {
        final String name;
        final boolean isPrivate;
        final int parameters;
        final long lines;
        final Set<Element> calls = new LinkedHashSet<>();

        Method(String name, boolean isPrivate, int parameters, long lines) {
            this.name = name;
            this.isPrivate = isPrivate;
            this.parameters = parameters;
            this.lines = lines;
        }
    }

    final Map<Element, Method> methods = new LinkedHashMap<>();
    final Map<String, Integer> fieldsOfClasses = new TreeMap<>();
    final Set<String> ownTypes = new TreeSet<>();
    final Set<String> kinds = new TreeSet<>();
    final Set<String> imports = new TreeSet<>();
    final Set<String> libraryCalls = new TreeSet<>();
    final Set<String> types = new TreeSet<>();
    final Set<String> enumFields = new TreeSet<>();
    final Set<String> staticFields = new TreeSet<>();
    final Set<String> signs = new TreeSet<>();
    /** What breaks a rule where it stands; the number of the rule comes first. */
    final List<String> faults = new ArrayList<>();
    private final Trees trees;
    private final CompilationUnitTree unit;

    private Source(Trees trees, CompilationUnitTree unit) {
        this.trees = trees;
        this.unit = unit;
    }

    static Source read(Path file) throws Exception {
        JavaCompiler compiler = ToolProvider.getSystemJavaCompiler();
        try (StandardJavaFileManager files = compiler.getStandardFileManager(null, null, null)) {
            JavacTask task = (JavacTask) compiler.getTask(null, files, null, List.of("-proc:none"), null,
                    files.getJavaFileObjects(file));
            CompilationUnitTree unit = task.parse().iterator().next();
            task.analyze();
            Source source = new Source(Trees.instance(task), unit);
            source.scan(unit, null);
            return source;
        }
    }

    private Element element() {
        return trees.getElement(getCurrentPath());
    }

    private long line(long position) {
        return unit.getLineMap().getLineNumber(position);
    }

    private void fault(int rule, String what, Tree tree) {
        faults.add("rule " + rule + ": " + what + " on line "
                + line(trees.getSourcePositions().getStartPosition(unit, tree)));
    }

    /** The method in which the present part stands, or null. */
    private Element enclosingMethod() {
        for (var path = getCurrentPath(); path != null; path = path.getParentPath()) {
            if (path.getLeaf() instanceof MethodTree) {
                return trees.getElement(path);
            }
        }
        return null;
    }

    private boolean standsIn(Class<? extends Tree> kind) {
        for (var path = getCurrentPath().getParentPath(); path != null; path = path.getParentPath()) {
            if (kind.isInstance(path.getLeaf())) {
                return true;
            }
        }
        return false;
    }

    private static boolean isConstructor(Element method) {
        return method.getSimpleName().contentEquals("<init>");
    }

    @Override
    public Void scan(Tree tree, Void nothing) {
        if (tree != null) {
            kinds.add(tree.getKind().name());
        }
        return super.scan(tree, nothing);
    }

    @Override
    public Void visitImport(ImportTree tree, Void nothing) {
        imports.add(tree.getQualifiedIdentifier().toString());
        return null;
    }

    @Override
    public Void visitClass(ClassTree tree, Void nothing) {
        TypeElement type = (TypeElement) element();
        ownTypes.add(type.asType().toString());
        boolean isOuter = type.getEnclosingElement().getKind() == ElementKind.PACKAGE;
        if (!isOuter && (!type.getModifiers().contains(Modifier.STATIC) || type.getModifiers().contains(Modifier.PUBLIC)
                || type.getModifiers().contains(Modifier.PROTECTED))) {
            fault(1, "class " + type + " that is not static, or shown", tree);
        }
        if (standsIn(MethodTree.class)) {
            fault(2, "class inside a method", tree);
        }
        int fields = 0;
        for (Tree member : tree.getMembers()) {
            if (member instanceof BlockTree block && block.isStatic()) {
                fault(5, "static initialiser block", member);
            }
            if (member instanceof VariableTree field && !field.getModifiers().getFlags().contains(Modifier.STATIC)) {
                fields++;
            }
        }
        fieldsOfClasses.put(type.toString(), fields);
        return super.visitClass(tree, nothing);
    }

    @Override
    public Void visitMethod(MethodTree tree, Void nothing) {
        Element method = element();
        long first = line(trees.getSourcePositions().getStartPosition(unit, tree));
        long last = line(Math.max(0, trees.getSourcePositions().getEndPosition(unit, tree) - 1));
        methods.put(method, new Method(method.getEnclosingElement() + "." + method.getSimpleName(),
                method.getModifiers().contains(Modifier.PRIVATE), tree.getParameters().size(), last - first + 1));
        if (!isConstructor(method)) {
            types.add(((ExecutableElement) method).getReturnType().toString());
        }
        return super.visitMethod(tree, nothing);
    }

    @Override
    public Void visitVariable(VariableTree tree, Void nothing) {
        Element variable = element();
        String type = variable.asType().toString();
        types.add(type);
        boolean isField = variable.getKind() == ElementKind.FIELD;
        if (isField && variable.getModifiers().contains(Modifier.STATIC)) {
            staticFields.add(type);
            if (!variable.getModifiers().contains(Modifier.FINAL)) {
                fault(5, "static field that is not final", tree);
            }
        } else if (isField && variable.getEnclosingElement().getKind() == ElementKind.ENUM) {
            enumFields.add(type);
        }
        return super.visitVariable(tree, nothing);
    }

    @Override
    public Void visitMethodInvocation(MethodInvocationTree tree, Void nothing) {
        Element called = element();
        String owner = called.getEnclosingElement().toString();
        if (!owner.startsWith("ParcelDepot")) {
            if (!isConstructor(called)) {
                libraryCalls.add(owner + "." + called.getSimpleName());
            }
        } else {
            call(called);
        }
        return super.visitMethodInvocation(tree, nothing);
    }

    private void call(Element called) {
        Element caller = enclosingMethod();
        if (caller != null) {
            methods.get(caller).calls.add(called);
        }
    }

    @Override
    public Void visitNewClass(NewClassTree tree, Void nothing) {
        if (tree.getClassBody() == null && element().getEnclosingElement().toString().startsWith("ParcelDepot")) {
            call(element());
        }
        if (!(getCurrentPath().getParentPath().getLeaf() instanceof ThrowTree)) {
            madeOnlyOnce("object", tree);
        }
        return super.visitNewClass(tree, nothing);
    }

    @Override
    public Void visitNewArray(NewArrayTree tree, Void nothing) {
        madeOnlyOnce("array", tree);
        return super.visitNewArray(tree, nothing);
    }

    // The rule allows more than this; but all rows of this class are made with the depot.
    private void madeOnlyOnce(String what, Tree tree) {
        Element method = enclosingMethod();
        if (method != null && !isConstructor(method)) {
            fault(12, what + " made in a call", tree);
        }
    }

    @Override
    public Void visitThrow(ThrowTree tree, Void nothing) {
        if (isConstructor(enclosingMethod())) {
            fault(6, "throw in a constructor", tree);
        }
        if (!(tree.getExpression() instanceof NewClassTree made)) {
            fault(6, "throw of what is not made there", tree);
        } else if (!LanguageTest.EXCEPTIONS.contains(made.getIdentifier().toString()) || !hasWrittenText(made)) {
            fault(6, "throw of another kind", tree);
        }
        return super.visitThrow(tree, nothing);
    }

    private static boolean hasWrittenText(NewClassTree made) {
        return made.getArguments().isEmpty()
                || made.getArguments().size() == 1 && made.getArguments().get(0).getKind() == Tree.Kind.STRING_LITERAL;
    }

    @Override
    public Void visitForLoop(ForLoopTree tree, Void nothing) {
        if (tree.getInitializer().size() != 1 || tree.getCondition() == null || tree.getUpdate().size() != 1) {
            fault(9, "loop without a counter against a bound", tree);
        }
        return super.visitForLoop(tree, nothing);
    }

    @Override
    public Void visitBinary(BinaryTree tree, Void nothing) {
        if (tree.getKind() == Tree.Kind.PLUS && isText(trees.getTypeMirror(getCurrentPath()))) {
            fault(10, "texts joined by +", tree);
        }
        return super.visitBinary(tree, nothing);
    }

    private static boolean isText(TypeMirror type) {
        return type != null && type.toString().equals("java.lang.String");
    }

    @Override
    public Void visitLiteral(LiteralTree tree, Void nothing) {
        if (tree.getValue() instanceof String text) {
            text.chars().forEach(sign -> signs.add(sign >= 1 && sign <= 127 ? "good" : "" + sign));
        }
        return super.visitLiteral(tree, nothing);
    }

    /** The most calls that stand open at once from this one on; a call that comes back to itself counts for many. */
    int depth(Element method) {
        return depth(method, new HashSet<>());
    }

    private int depth(Element method, Set<Element> open) {
        if (!open.add(method)) {
            return 1000;
        }
        int deepest = 0;
        Method known = methods.get(method);
        if (known != null) {
            for (Element called : known.calls) {
                deepest = Math.max(deepest, depth(called, open));
            }
        }
        open.remove(method);
        return deepest + 1;
    }
}

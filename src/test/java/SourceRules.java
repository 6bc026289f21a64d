import com.sun.source.tree.AssertTree;
import com.sun.source.tree.BinaryTree;
import com.sun.source.tree.BlockTree;
import com.sun.source.tree.ClassTree;
import com.sun.source.tree.CompilationUnitTree;
import com.sun.source.tree.CompoundAssignmentTree;
import com.sun.source.tree.ExpressionTree;
import com.sun.source.tree.ImportTree;
import com.sun.source.tree.LambdaExpressionTree;
import com.sun.source.tree.LiteralTree;
import com.sun.source.tree.MemberReferenceTree;
import com.sun.source.tree.MethodInvocationTree;
import com.sun.source.tree.MethodTree;
import com.sun.source.tree.NewClassTree;
import com.sun.source.tree.SwitchExpressionTree;
import com.sun.source.tree.SwitchTree;
import com.sun.source.tree.SynchronizedTree;
import com.sun.source.tree.ThrowTree;
import com.sun.source.tree.Tree;
import com.sun.source.tree.TryTree;
import com.sun.source.tree.TypeCastTree;
import com.sun.source.tree.VariableTree;
import com.sun.source.util.JavacTask;
import com.sun.source.util.TreePath;
import com.sun.source.util.TreePathScanner;
import com.sun.source.util.Trees;
import java.io.IOException;
import java.net.URI;
import java.util.ArrayList;
import java.util.HashMap;
import java.util.LinkedHashSet;
import java.util.List;
import java.util.Map;
import java.util.Set;
import javax.lang.model.element.Element;
import javax.lang.model.element.ElementKind;
import javax.lang.model.element.Modifier;
import javax.lang.model.element.TypeElement;
import javax.lang.model.type.ArrayType;
import javax.lang.model.type.DeclaredType;
import javax.lang.model.type.TypeKind;
import javax.lang.model.type.TypeMirror;
import javax.tools.JavaFileObject;
import javax.tools.SimpleJavaFileObject;
import javax.tools.ToolProvider;

/** The rules of LANGUAGE.md that a source shows, looked for in its tree; a breach is told by the rule's number. */
final class SourceRules extends TreePathScanner<Void, Void> {
    private static final int MOST_PARAMETERS = 7;
    private static final int MOST_LINES = 65;
    private static final int MOST_CLASSES = 13;
    private static final int MOST_FIELDS = 22;
    // A call of the face, and eight more below it.
    private static final int MOST_DEEP = 9;

    private static final Set<String> IMPORTS = Set.of("java.util.Arrays", "java.util.ArrayList", "java.util.List",
            "java.util.Iterator");
    private static final Set<String> TYPES = Set.of("java.lang.String", "java.lang.StringBuilder", "java.lang.Integer",
            "java.util.ArrayList", "java.util.List", "java.util.Iterator", "java.lang.Iterable", "java.lang.Comparable");
    private static final Map<String, Set<String>> LIBRARY = Map.of(
            "java.lang.String", Set.of("length", "charAt", "isEmpty", "equals", "indexOf", "substring", "toCharArray"),
            "java.lang.StringBuilder", Set.of("append", "charAt", "setCharAt", "setLength", "deleteCharAt", "reverse",
                    "length", "toString"),
            "java.util.ArrayList", Set.of("add", "get", "set", "remove", "size", "isEmpty", "clear"),
            "java.util.List", Set.of("add", "get", "set", "remove", "size", "isEmpty", "clear", "of"),
            "java.util.Arrays", Set.of("copyOf", "copyOfRange", "fill"),
            "java.lang.System", Set.of("arraycopy"),
            "java.util.Iterator", Set.of("hasNext", "next"),
            "java.lang.Iterable", Set.of("iterator"),
            "java.lang.Comparable", Set.of("compareTo"));
    private static final Set<String> NUMBERS = Set.of("java.lang.Integer", "java.lang.Long", "java.lang.Math");
    private static final Set<String> MADE = Set.of("java.lang.String", "java.lang.StringBuilder", "java.util.ArrayList");
    private static final Set<String> OBJECTS_OWN = Set.of("equals", "hashCode", "toString", "finalize", "clone");

    private final Trees trees;
    private final CompilationUnitTree unit;
    private final Set<String> breaches = new LinkedHashSet<>();
    private final Map<Element, Set<Element>> calls = new HashMap<>();
    private int classes;

    private SourceRules(Trees trees, CompilationUnitTree unit) {
        this.trees = trees;
        this.unit = unit;
    }

    /** A source that does not even compile breaches no rule, but is told as "compiles not". */
    static List<String> breaches(String source) throws IOException {
        JavaFileObject file = new SimpleJavaFileObject(URI.create("string:///RhymeLaw.java"), JavaFileObject.Kind.SOURCE) {
            @Override
            public CharSequence getCharContent(boolean ignored) {
                return source;
            }
        };
        List<String> faults = new ArrayList<>();
        JavacTask task = (JavacTask) ToolProvider.getSystemJavaCompiler().getTask(null, null,
                fault -> faults.add("compiles not: " + fault), List.of("-proc:none"), null, List.of(file));
        CompilationUnitTree unit = task.parse().iterator().next();
        task.analyze();
        if (!faults.isEmpty()) {
            return faults;
        }
        SourceRules rules = new SourceRules(Trees.instance(task), unit);
        if (unit.getPackage() != null) {
            rules.breach(0, "a package line", unit);
        }
        rules.scan(unit, null);
        rules.callsBelow();
        return new ArrayList<>(rules.breaches);
    }

    private void breach(int rule, String what, Tree where) {
        long line = unit.getLineMap().getLineNumber(trees.getSourcePositions().getStartPosition(unit, where));
        breaches.add("rule " + rule + ", line " + line + ": " + what);
    }

    private Element element() {
        return trees.getElement(getCurrentPath());
    }

    private TypeMirror typeOf(Tree tree) {
        TypeMirror type = trees.getTypeMirror(new TreePath(getCurrentPath(), tree));
        return type == null ? trees.getTypeMirror(getCurrentPath()) : type;
    }

    private static String nameOf(TypeMirror type) {
        return type instanceof DeclaredType
                ? ((TypeElement) ((DeclaredType) type).asElement()).getQualifiedName().toString() : String.valueOf(type);
    }

    private static boolean isOwn(String name) {
        return name.equals("RhymeLaw") || name.startsWith("RhymeLaw.");
    }

    private static boolean isText(TypeMirror type) {
        return nameOf(type).equals("java.lang.String");
    }

    private static boolean isAllowed(TypeMirror type) {
        if (type.getKind() == TypeKind.ARRAY) {
            TypeMirror part = ((ArrayType) type).getComponentType();
            boolean isRow = part.getKind() == TypeKind.ARRAY;
            TypeMirror last = isRow ? ((ArrayType) part).getComponentType() : part;
            return last.getKind().isPrimitive() || !isRow && isOwn(nameOf(last));
        }
        if (type.getKind() != TypeKind.DECLARED) {
            return type.getKind() != TypeKind.ERROR;
        }
        for (TypeMirror argument : ((DeclaredType) type).getTypeArguments()) {
            if (argument.getKind() == TypeKind.DECLARED && !isOwn(nameOf(argument))
                    && !nameOf(argument).equals("java.lang.Integer")) {
                return false;
            }
        }
        return isOwn(nameOf(type)) || TYPES.contains(nameOf(type));
    }

    // ---- classes, fields, methods

    @Override
    public Void visitImport(ImportTree tree, Void none) {
        String name = tree.getQualifiedIdentifier().toString();
        if (tree.isStatic() || !IMPORTS.contains(name)) {
            breach(4, "import of " + name, tree);
        }
        return super.visitImport(tree, none);
    }

    @Override
    public Void visitClass(ClassTree tree, Void none) {
        Element own = element();
        classes++;
        if (classes > MOST_CLASSES) {
            breach(11, "classes", tree);
        }
        Element around = own.getEnclosingElement();
        if (around.getKind() == ElementKind.PACKAGE) {
            if (!own.getModifiers().containsAll(Set.of(Modifier.PUBLIC, Modifier.FINAL))) {
                breach(1, "the class is not public and final", tree);
            }
        } else if (!around.getKind().isClass() && !around.getKind().isInterface() || tree.getSimpleName().length() == 0) {
            breach(2, "a local or anonymous class", tree);
        } else if (!own.getModifiers().contains(Modifier.STATIC)) {
            breach(2, "an inner class that is not static", tree);
        } else if (own.getModifiers().contains(Modifier.PUBLIC) || own.getModifiers().contains(Modifier.PROTECTED)) {
            breach(1, "a class inside that is seen", tree);
        }
        int fields = 0;
        for (Tree member : tree.getMembers()) {
            Element part = trees.getElement(new TreePath(getCurrentPath(), member));
            boolean isField = part != null && part.getKind() == ElementKind.FIELD;
            fields += isField && !part.getModifiers().contains(Modifier.STATIC) ? 1 : 0;
            if (member instanceof BlockTree && ((BlockTree) member).isStatic()) {
                breach(5, "a static initialiser block", member);
            }
        }
        if (fields > MOST_FIELDS) {
            breach(11, "fields", tree);
        }
        return super.visitClass(tree, none);
    }

    @Override
    public Void visitVariable(VariableTree tree, Void none) {
        Element variable = element();
        if (!isAllowed(variable.asType())) {
            breach(3, "type " + variable.asType(), tree);
        }
        boolean isField = variable.getKind() == ElementKind.FIELD;
        if (isField && variable.getModifiers().contains(Modifier.STATIC)) {
            boolean isRow = variable.asType().getKind() == TypeKind.ARRAY;
            if (!variable.getModifiers().contains(Modifier.FINAL)) {
                breach(5, "static state", tree);
            } else if (!variable.asType().getKind().isPrimitive() && !isText(variable.asType()) && !isRow) {
                breach(5, "a constant of type " + variable.asType(), tree);
            }
        }
        return super.visitVariable(tree, none);
    }

    @Override
    public Void visitMethod(MethodTree tree, Void none) {
        Element method = element();
        calls.put(method, new LinkedHashSet<>());
        if (tree.getParameters().size() > MOST_PARAMETERS) {
            breach(11, "parameters", tree);
        }
        if (tree.getReturnType() != null && !isAllowed(typeOf(tree.getReturnType()))) {
            breach(3, "type " + tree.getReturnType(), tree);
        }
        if (!tree.getThrows().isEmpty() || method.getModifiers().contains(Modifier.SYNCHRONIZED)) {
            breach(6, "throws or synchronized", tree);
        }
        if (OBJECTS_OWN.contains(tree.getName().toString())) {
            breach(6, "a method " + tree.getName(), tree);
        }
        long from = unit.getLineMap().getLineNumber(trees.getSourcePositions().getStartPosition(unit, tree));
        long to = unit.getLineMap().getLineNumber(Math.max(0, trees.getSourcePositions().getEndPosition(unit, tree)));
        if (to - from >= MOST_LINES) {
            breach(11, "lines", tree);
        }
        return super.visitMethod(tree, none);
    }

    // ---- what stands in methods

    @Override
    public Void visitMethodInvocation(MethodInvocationTree tree, Void none) {
        Element called = element();
        String name = called.getSimpleName().toString();
        String owner = nameOf(called.getEnclosingElement().asType());
        if (isOwn(owner)) {
            Element caller = method();
            if (caller != null) {
                calls.computeIfAbsent(caller, key -> new LinkedHashSet<>()).add(called);
            }
        } else if (!isLibrary(tree, owner, name)) {
            breach(4, owner + "." + name, tree);
        }
        return super.visitMethodInvocation(tree, none);
    }

    private boolean isLibrary(MethodInvocationTree tree, String owner, String name) {
        if (NUMBERS.contains(owner)) {
            return !name.endsWith("Exact") && !name.startsWith("to") && element().getModifiers().contains(Modifier.STATIC)
                    && trees.getTypeMirror(getCurrentPath()).getKind().isPrimitive();
        }
        boolean isCloneOfRow = name.equals("clone") && tree.getArguments().isEmpty() && owner.equals("Array");
        boolean isSuper = name.equals("<init>") && Set.of("java.lang.Object", "java.lang.Enum", "java.lang.Record").contains(owner);
        boolean isOfEnum = owner.equals("java.lang.Enum") && name.equals("ordinal");
        return isCloneOfRow || isSuper || isOfEnum || LIBRARY.getOrDefault(owner, Set.of()).contains(name);
    }

    /** The method or constructor that the current place is in, or null. */
    private Element method() {
        for (TreePath path = getCurrentPath(); path != null; path = path.getParentPath()) {
            if (path.getLeaf() instanceof MethodTree) {
                return trees.getElement(path);
            }
        }
        return null;
    }

    @Override
    public Void visitNewClass(NewClassTree tree, Void none) {
        String name = nameOf(typeOf(tree.getIdentifier()));
        if (tree.getClassBody() != null) {
            breach(2, "an anonymous class", tree);
        } else if (!isOwn(name) && !MADE.contains(name)) {
            breach(4, "new " + name, tree);
        }
        return super.visitNewClass(tree, none);
    }

    @Override
    public Void visitTypeCast(TypeCastTree tree, Void none) {
        TypeMirror type = typeOf(tree.getType());
        if (!type.getKind().isPrimitive() && !isOwn(nameOf(type))) {
            breach(6, "a cast to " + type, tree);
        }
        return super.visitTypeCast(tree, none);
    }

    @Override
    public Void visitBinary(BinaryTree tree, Void none) {
        boolean left = isText(typeOf(tree.getLeftOperand()));
        boolean right = isText(typeOf(tree.getRightOperand()));
        boolean asked = tree.getKind() == Tree.Kind.EQUAL_TO || tree.getKind() == Tree.Kind.NOT_EQUAL_TO;
        if (tree.getKind() == Tree.Kind.PLUS && (left || right)) {
            breach(10, "texts joined by +", tree);
        } else if (asked && left && right) {
            breach(6, "texts compared by ==", tree);
        } else if (asked && isBoxed(tree.getLeftOperand()) && isBoxed(tree.getRightOperand())) {
            breach(6, "Integers compared by ==", tree);
        }
        return super.visitBinary(tree, none);
    }

    private boolean isBoxed(ExpressionTree part) {
        return nameOf(typeOf(part)).equals("java.lang.Integer");
    }

    @Override
    public Void visitCompoundAssignment(CompoundAssignmentTree tree, Void none) {
        if (isText(typeOf(tree.getVariable()))) {
            breach(10, "texts joined by +=", tree);
        }
        return super.visitCompoundAssignment(tree, none);
    }

    @Override
    public Void visitLiteral(LiteralTree tree, Void none) {
        String signs = tree.getValue() instanceof String || tree.getValue() instanceof Character
                ? tree.getValue().toString() : "";
        for (int i = 0; i < signs.length(); i++) {
            if (signs.charAt(i) > 127 || tree.getValue() instanceof String && signs.charAt(i) == 0) {
                breach(4, "a sign " + (int) signs.charAt(i), tree);
            }
        }
        return super.visitLiteral(tree, none);
    }

    @Override
    public Void visitSwitch(SwitchTree tree, Void none) {
        if (isText(typeOf(tree.getExpression()))) {
            breach(10, "a switch on a text", tree);
        }
        return super.visitSwitch(tree, none);
    }

    @Override
    public Void visitSwitchExpression(SwitchExpressionTree tree, Void none) {
        if (isText(typeOf(tree.getExpression()))) {
            breach(10, "a switch on a text", tree);
        }
        return super.visitSwitchExpression(tree, none);
    }

    @Override
    public Void visitLambdaExpression(LambdaExpressionTree tree, Void none) {
        breach(2, "a lambda", tree);
        return super.visitLambdaExpression(tree, none);
    }

    @Override
    public Void visitMemberReference(MemberReferenceTree tree, Void none) {
        breach(2, "a method reference", tree);
        return super.visitMemberReference(tree, none);
    }

    @Override
    public Void visitThrow(ThrowTree tree, Void none) {
        breach(6, "throw", tree);
        return super.visitThrow(tree, none);
    }

    @Override
    public Void visitTry(TryTree tree, Void none) {
        breach(6, "try", tree);
        return super.visitTry(tree, none);
    }

    @Override
    public Void visitSynchronized(SynchronizedTree tree, Void none) {
        breach(6, "synchronized", tree);
        return super.visitSynchronized(tree, none);
    }

    @Override
    public Void visitAssert(AssertTree tree, Void none) {
        breach(6, "assert", tree);
        return super.visitAssert(tree, none);
    }

    // ---- which method calls which

    private void callsBelow() {
        for (Element method : calls.keySet()) {
            boolean isAgain = reached(method).contains(method);
            boolean isOfInterface = method.getEnclosingElement().getKind().isInterface();
            boolean isPrivate = method.getModifiers().contains(Modifier.PRIVATE);
            if (isAgain && !isPrivate && !isOfInterface) {
                breach(8, method + " calls itself", unit);
            }
            if (deep(method, new LinkedHashSet<>()) > MOST_DEEP) {
                breach(11, method + " goes too deep", unit);
            }
        }
    }

    private Set<Element> reached(Element from) {
        Set<Element> reached = new LinkedHashSet<>();
        List<Element> open = new ArrayList<>(calls.getOrDefault(from, Set.of()));
        while (!open.isEmpty()) {
            Element next = open.remove(open.size() - 1);
            if (reached.add(next)) {
                open.addAll(calls.getOrDefault(next, Set.of()));
            }
        }
        return reached;
    }

    /** How many calls stand open at once, from this one on; one that stands open already is not counted again. */
    private int deep(Element method, Set<Element> open) {
        if (!open.add(method)) {
            return 0;
        }
        int most = 0;
        for (Element next : calls.getOrDefault(method, Set.of())) {
            most = Math.max(most, deep(next, open));
        }
        open.remove(method);
        return most + 1;
    }
}

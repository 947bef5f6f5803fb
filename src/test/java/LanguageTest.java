import com.sun.source.tree.*;
import com.sun.source.util.JavacTask;
import com.sun.source.util.SourcePositions;
import com.sun.source.util.TreePath;
import com.sun.source.util.TreePathScanner;
import com.sun.source.util.Trees;
import java.io.File;
import java.io.IOException;
import java.nio.file.Files;
import java.nio.file.Path;
import java.util.ArrayList;
import java.util.HashSet;
import java.util.LinkedHashMap;
import java.util.LinkedHashSet;
import java.util.List;
import java.util.Map;
import java.util.Set;
import javax.lang.model.element.Element;
import javax.lang.model.element.ElementKind;
import javax.lang.model.element.ExecutableElement;
import javax.lang.model.element.Modifier;
import javax.lang.model.element.TypeElement;
import javax.lang.model.type.TypeKind;
import javax.lang.model.type.TypeMirror;
import javax.tools.JavaCompiler;
import javax.tools.StandardJavaFileManager;
import javax.tools.ToolProvider;

/** The rules of LANGUAGE.md, looked for in the parsed LeadPress.java. Its path is the argument. */
public final class LanguageTest {
    private static final Set<Tree.Kind> FORBIDDEN = Set.of(Tree.Kind.THROW, Tree.Kind.TRY, Tree.Kind.CATCH,
        Tree.Kind.SYNCHRONIZED, Tree.Kind.ASSERT, Tree.Kind.LAMBDA_EXPRESSION, Tree.Kind.MEMBER_REFERENCE,
        Tree.Kind.PACKAGE, Tree.Kind.ANNOTATION, Tree.Kind.ANNOTATION_TYPE);
    private static final String[] TEXT = {"length", "charAt", "isEmpty", "equals", "indexOf", "substring",
        "toCharArray", "<init>"};
    private static final String[] BUILDER = {"<init>", "append", "charAt", "setCharAt", "setLength", "deleteCharAt",
        "reverse", "length", "toString"};
    private static final String[] LIST = {"<init>", "add", "get", "set", "remove", "size", "isEmpty", "clear", "of"};
    private static final Map<String, String[]> LIBRARY = Map.of(
        "java.lang.String", TEXT, "java.lang.StringBuilder", BUILDER,
        "java.util.ArrayList", LIST, "java.util.List", LIST,
        "java.util.Iterator", new String[] {"hasNext", "next"}, "java.lang.Iterable", new String[] {"iterator"},
        "java.lang.Comparable", new String[] {"compareTo"}, "java.lang.System", new String[] {"arraycopy"},
        "java.util.Arrays", new String[] {"copyOf", "copyOfRange", "fill"});
    private static final Set<String> NUMBERS = Set.of("java.lang.Integer", "java.lang.Long", "java.lang.Math");
    /** A class of the program bears a constructor of these without being told to. */
    private static final Set<String> ROOTS = Set.of("java.lang.Object", "java.lang.Enum", "java.lang.Record");

    private static final int LINES = 60, PARAMETERS = 7, DEEP = 8, CLASSES = 12, FIELDS = 20;

    private static final Map<Element, Set<Element>> calls = new LinkedHashMap<>();
    private static SourcePositions positions;
    private static CompilationUnitTree unit;

    public static void main(String[] args) throws IOException {
        String path = args.length > 0 ? args[0] : "src/main/java/LeadPress.java";
        signs(Files.readString(Path.of(path)));
        JavaCompiler compiler = ToolProvider.getSystemJavaCompiler();
        StandardJavaFileManager files = compiler.getStandardFileManager(null, null, null);
        List<String> options = List.of("-proc:none");
        JavacTask task = (JavacTask) compiler.getTask(null, files, null, options, null,
            files.getJavaFileObjects(new File(path)));
        unit = task.parse().iterator().next();
        task.analyze();
        Trees trees = Trees.instance(task);
        positions = trees.getSourcePositions();
        new Rules(trees).scan(new TreePath(unit), null);
        Due.due("one class stands in the file", unit.getTypeDecls().size(), 1);
        depth();
        Due.end();
    }

    private static void signs(String text) {
        for (char sign : text.toCharArray()) {
            if (sign > 126) {
                Due.due("a sign above 126", sign, 126);
            }
        }
    }

    private static void rule(String what, boolean holds) {
        Due.due(what, holds ? 1 : 0, 1);
    }

    private static long line(Tree tree) {
        return unit.getLineMap().getLineNumber(positions.getStartPosition(unit, tree));
    }

    /** How many calls stand open at most, where recursion counts each of its methods once. */
    private static void depth() {
        int deepest = 0;
        for (Element method : calls.keySet()) {
            deepest = Math.max(deepest, depthFrom(method, new LinkedHashSet<>()));
        }
        rule("calls go " + deepest + " deep", deepest > 0 && deepest <= DEEP);
    }

    private static int depthFrom(Element method, Set<Element> open) {
        if (!open.add(method)) {
            return 0;
        }
        int below = 0;
        for (Element called : calls.getOrDefault(method, Set.of())) {
            below = Math.max(below, depthFrom(called, open));
        }
        open.remove(method);
        return below + 1;
    }

    /** Looks at each part of the file. */
    private static final class Rules extends TreePathScanner<Void, Void> {
        private final Trees trees;
        private int classes = 0;

        Rules(Trees trees) {
            this.trees = trees;
        }

        private Element here() {
            return trees.getElement(getCurrentPath());
        }

        @Override
        public Void scan(Tree tree, Void nothing) {
            if (tree != null) {
                rule(tree.getKind() + " in line " + line(tree), !FORBIDDEN.contains(tree.getKind())
                    || tree.getKind() == Tree.Kind.ANNOTATION && tree.toString().contains("Override"));
            }
            return super.scan(tree, nothing);
        }

        @Override
        public Void visitClass(ClassTree tree, Void nothing) {
            Element element = here();
            classes++;
            rule("classes: " + classes, classes <= CLASSES + 1);
            boolean outer = element.getEnclosingElement().getKind() == ElementKind.PACKAGE;
            boolean inner = element.getEnclosingElement().getKind().isClass();
            rule(element + " is static inside the file", outer || inner && isHidden(element)
                && element.getModifiers().contains(Modifier.STATIC));
            int fields = 0;
            for (Element member : element.getEnclosedElements()) {
                fields += member.getKind() == ElementKind.FIELD && !isStatic(member) ? 1 : 0;
                rule(member + " of Object", !Set.of("equals", "hashCode", "toString", "finalize")
                    .contains(member.getSimpleName().toString()) || element.getKind() == ElementKind.RECORD);
            }
            rule("fields of " + element + ": " + fields, fields <= FIELDS);
            return super.visitClass(tree, nothing);
        }

        private static boolean isHidden(Element element) {
            return !element.getModifiers().contains(Modifier.PUBLIC)
                && !element.getModifiers().contains(Modifier.PROTECTED);
        }

        private static boolean isStatic(Element element) {
            return element.getModifiers().contains(Modifier.STATIC);
        }

        @Override
        public Void visitBlock(BlockTree tree, Void nothing) {
            boolean initialiser = getCurrentPath().getParentPath().getLeaf() instanceof ClassTree;
            rule("a static block in line " + line(tree), !(initialiser && tree.isStatic()));
            return super.visitBlock(tree, nothing);
        }

        @Override
        public Void visitVariable(VariableTree tree, Void nothing) {
            Element element = here();
            if (element != null && element.getKind() == ElementKind.FIELD && isStatic(element)) {
                rule(element + " is final", element.getModifiers().contains(Modifier.FINAL));
            }
            if (element != null) {
                rule(element + " is of a type that may be", isType(element.asType(), 0));
            }
            return super.visitVariable(tree, nothing);
        }

        private static boolean isType(TypeMirror type, int dimensions) {
            if (type.getKind() == TypeKind.ARRAY) {
                TypeMirror part = ((javax.lang.model.type.ArrayType) type).getComponentType();
                return dimensions < 2 && isType(part, dimensions + 1);
            }
            if (type.getKind().isPrimitive() || type.getKind() == TypeKind.TYPEVAR) {
                return true;
            }
            String name = type.toString().replaceAll("<.*", "");
            boolean own = name.startsWith("LeadPress");
            boolean text = name.equals("java.lang.String") || name.equals("java.lang.StringBuilder");
            boolean list = name.equals("java.util.ArrayList") || name.equals("java.util.List")
                || name.equals("java.lang.Integer") || name.equals("java.util.Iterator");
            return own && dimensions < 2 || text && dimensions < 2 || list && dimensions == 0;
        }

        @Override
        public Void visitMethod(MethodTree tree, Void nothing) {
            ExecutableElement method = (ExecutableElement) here();
            calls.computeIfAbsent(method, key -> new LinkedHashSet<>());
            if (tree.getBody() != null && positions.getEndPosition(unit, tree) >= 0) {
                long end = unit.getLineMap().getLineNumber(positions.getEndPosition(unit, tree));
                rule(method + " is short", end - line(tree) <= LINES);
            }
            rule(method + " takes few", tree.getParameters().size() <= PARAMETERS);
            rule(method + " throws nothing", tree.getThrows().isEmpty());
            return super.visitMethod(tree, nothing);
        }

        @Override
        public Void visitMethodInvocation(MethodInvocationTree tree, Void nothing) {
            called(tree);
            return super.visitMethodInvocation(tree, nothing);
        }

        @Override
        public Void visitNewClass(NewClassTree tree, Void nothing) {
            rule("a class without a name in line " + line(tree), tree.getClassBody() == null);
            called(tree);
            return super.visitNewClass(tree, nothing);
        }

        private void called(Tree tree) {
            Element target = here();
            if (target == null) {
                rule("an unknown call in line " + line(tree), false);
                return;
            }
            String owner = ((TypeElement) target.getEnclosingElement()).getQualifiedName().toString();
            if (owner.startsWith("LeadPress")) {
                for (Element caller : callers()) {
                    calls.computeIfAbsent(caller, key -> new LinkedHashSet<>()).add(target);
                }
            } else {
                rule("call of " + owner + "." + target, mayBeCalled(owner, target.getSimpleName().toString()));
            }
        }

        private static boolean mayBeCalled(String owner, String name) {
            if (ROOTS.contains(owner)) {
                return name.equals("<init>") || Set.of("values", "ordinal", "name").contains(name);
            }
            if (NUMBERS.contains(owner)) {
                return !name.endsWith("Exact");
            }
            Set<String> names = new HashSet<>(List.of(LIBRARY.getOrDefault(owner, new String[0])));
            return names.contains(name) || owner.equals("Array") && name.equals("clone");
        }

        /** The method around this place; for a field's value the constructors of its class. */
        private List<Element> callers() {
            List<Element> found = new ArrayList<>();
            for (TreePath path = getCurrentPath(); path != null; path = path.getParentPath()) {
                if (path.getLeaf() instanceof MethodTree) {
                    found.add(trees.getElement(path));
                    return found;
                }
                if (path.getLeaf() instanceof ClassTree) {
                    for (Element member : trees.getElement(path).getEnclosedElements()) {
                        if (member.getKind() == ElementKind.CONSTRUCTOR) {
                            found.add(member);
                        }
                    }
                    return found;
                }
            }
            return found;
        }

        @Override
        public Void visitForLoop(ForLoopTree tree, Void nothing) {
            rule("a loop with an end in line " + line(tree), tree.getCondition() != null);
            return super.visitForLoop(tree, nothing);
        }

        @Override
        public Void visitWhileLoop(WhileLoopTree tree, Void nothing) {
            rule("a loop with an end in line " + line(tree), !tree.getCondition().toString().equals("(true)"));
            return super.visitWhileLoop(tree, nothing);
        }

        @Override
        public Void visitBinary(BinaryTree tree, Void nothing) {
            if (tree.getKind() == Tree.Kind.PLUS) {
                TypeMirror type = trees.getTypeMirror(getCurrentPath());
                rule("texts joined by + in line " + line(tree), type != null && type.getKind().isPrimitive());
            }
            return super.visitBinary(tree, nothing);
        }
    }
}

import com.sun.source.tree.*;
import com.sun.source.util.JavacTask;
import com.sun.source.util.TreePathScanner;
import com.sun.source.util.Trees;
import java.lang.reflect.Constructor;
import java.lang.reflect.Method;
import java.lang.reflect.Modifier;
import java.nio.file.Path;
import java.util.ArrayList;
import java.util.HashMap;
import java.util.LinkedHashSet;
import java.util.List;
import java.util.Map;
import java.util.Set;
import java.util.TreeSet;
import javax.lang.model.element.Element;
import javax.lang.model.element.ElementKind;
import javax.lang.model.element.ExecutableElement;
import javax.tools.JavaCompiler;
import javax.tools.StandardJavaFileManager;
import javax.tools.ToolProvider;

/** Those rules of ../shared/LANGUAGE.md that can be read off the source. */
public final class RuleCheck {
    private static final String SOURCE = "src/main/java/KeptParts.java";
    /** The document's face, as the methods' own texts have it, without packages. */
    private static final Set<String> FACE = Set.of(
        "public int node(int) throws UnsupportedOperationException",
        "public int chain(int) throws IllegalArgumentException,UnsupportedOperationException",
        "public int put(int,int) throws IndexOutOfBoundsException,UnsupportedOperationException",
        "public int take(int) throws IndexOutOfBoundsException",
        "public int weigh(int,int) throws IndexOutOfBoundsException",
        "public boolean joined(int,int) throws IndexOutOfBoundsException",
        "public boolean two(int,int) throws IndexOutOfBoundsException",
        "public int of(int,int) throws IndexOutOfBoundsException,IllegalArgumentException",
        "public int arc(int,int) throws IndexOutOfBoundsException,IllegalArgumentException",
        "public int order(int) throws IndexOutOfBoundsException",
        "public int odd(int,int) throws IndexOutOfBoundsException",
        "public int ring(int) throws IndexOutOfBoundsException",
        "public long triangles()",
        "public int planPut(int,int) throws IndexOutOfBoundsException,UnsupportedOperationException",
        "public int planTake(int) throws IndexOutOfBoundsException,IllegalStateException,UnsupportedOperationException",
        "public int later(int,int) throws IndexOutOfBoundsException,IllegalArgumentException",
        "public boolean laterJoined(int,int,int) throws IndexOutOfBoundsException",
        "public int drop()",
        "public int told(int) throws IllegalArgumentException",
        "public boolean sound()",
        "public void clear()");
    private static final Set<String> LIBRARY = Set.of(
        "java.util.Arrays.fill(int[],int)", "java.lang.Math.max(int,int)", "java.lang.Math.min(int,int)");
    private static final Set<Tree.Kind> REFUSED = Set.of(
        Tree.Kind.LAMBDA_EXPRESSION, Tree.Kind.MEMBER_REFERENCE, Tree.Kind.TRY, Tree.Kind.CATCH, Tree.Kind.SYNCHRONIZED,
        Tree.Kind.ASSERT, Tree.Kind.WHILE_LOOP, Tree.Kind.DO_WHILE_LOOP, Tree.Kind.TYPE_CAST, Tree.Kind.INSTANCE_OF,
        Tree.Kind.NULL_LITERAL);
    private static final int MOST_LINES = 60;
    private static final int MOST_PARAMETERS = 7;
    private static final int MOST_CLASSES = 12;
    private static final int MOST_FIELDS = 20;
    private static final int MOST_DEPTH = 8;

    private static final Set<String> wrong = new TreeSet<>();

    private RuleCheck() {
    }

    public static void main(String[] args) throws Exception {
        checkFace();
        JavaCompiler compiler = ToolProvider.getSystemJavaCompiler();
        try (StandardJavaFileManager files = compiler.getStandardFileManager(null, null, null)) {
            JavacTask task = (JavacTask) compiler.getTask(
                null, files, null, List.of("-proc:none"), null, files.getJavaFileObjects(Path.of(SOURCE)));
            CompilationUnitTree unit = task.parse().iterator().next();
            task.analyze();
            Scan scan = new Scan(Trees.instance(task), unit);
            scan.scan(unit, null);
            scan.finish();
        }
        for (String line : wrong) {
            System.out.println(line);
        }
        System.out.println("rules: " + wrong.size() + " broken");
        if (!wrong.isEmpty()) {
            System.exit(1);
        }
    }

    private static void checkFace() {
        if (KeptParts.class.getModifiers() != (Modifier.PUBLIC | Modifier.FINAL)) {
            wrong.add("the class is not public and final");
        }
        Set<String> found = new TreeSet<>();
        for (Method method : KeptParts.class.getDeclaredMethods()) {
            if (!Modifier.isPrivate(method.getModifiers())) {
                found.add(method.toString().replace("KeptParts.", "").replace("java.lang.", ""));
            }
        }
        if (!found.equals(new TreeSet<>(FACE))) {
            wrong.add("the face is " + found);
        }
        Constructor<?>[] constructors = KeptParts.class.getDeclaredConstructors();
        if (constructors.length != 1 || !Modifier.isPublic(constructors[0].getModifiers())) {
            wrong.add("there is another constructor than the public one");
        }
        for (java.lang.reflect.Field field : KeptParts.class.getDeclaredFields()) {
            if (!Modifier.isPrivate(field.getModifiers()) && !field.getName().equals("NONE")) {
                wrong.add("a field that is not private: " + field.getName());
            }
        }
    }

    private static final class Scan extends TreePathScanner<Void, Void> {
        private final Trees trees;
        private final CompilationUnitTree unit;
        private final Map<Element, Set<Element>> calls = new HashMap<>();
        private final List<Element> methods = new ArrayList<>();
        private Element inMethod;
        private int classes;

        Scan(Trees trees, CompilationUnitTree unit) {
            this.trees = trees;
            this.unit = unit;
        }

        void finish() {
            if (classes > MOST_CLASSES) {
                wrong.add(classes + " classes");
            }
            for (Element method : methods) {
                int depth = depthOf(method, new LinkedHashSet<>());
                if (depth > MOST_DEPTH) {
                    wrong.add(method + " calls " + depth + " deep");
                }
            }
        }

        private int depthOf(Element method, Set<Element> open) {
            if (!open.add(method)) {
                wrong.add("recursion: " + open);
                return 0;
            }
            int deepest = 0;
            for (Element called : calls.getOrDefault(method, Set.of())) {
                deepest = Math.max(deepest, depthOf(called, open));
            }
            open.remove(method);
            return deepest + 1;
        }

        private long lineOf(long position) {
            return unit.getLineMap().getLineNumber(position);
        }

        private void refuse(Tree tree, String why) {
            wrong.add("line " + lineOf(trees.getSourcePositions().getStartPosition(unit, tree)) + ": " + why);
        }

        @Override
        public Void scan(Tree tree, Void none) {
            if (tree != null && REFUSED.contains(tree.getKind())) {
                refuse(tree, "" + tree.getKind());
            }
            return super.scan(tree, none);
        }

        @Override
        public Void visitImport(ImportTree tree, Void none) {
            if (!tree.getQualifiedIdentifier().toString().equals("java.util.Arrays")) {
                refuse(tree, "" + tree);
            }
            return super.visitImport(tree, none);
        }

        @Override
        public Void visitClass(ClassTree tree, Void none) {
            classes++;
            int fields = 0;
            for (Tree member : tree.getMembers()) {
                if (member instanceof VariableTree field) {
                    Set<javax.lang.model.element.Modifier> with = field.getModifiers().getFlags();
                    if (with.contains(javax.lang.model.element.Modifier.STATIC)) {
                        if (!with.contains(javax.lang.model.element.Modifier.FINAL)) {
                            refuse(field, "a static field that is not final");
                        }
                    } else {
                        fields++;
                    }
                }
                if (member instanceof BlockTree) {
                    refuse(member, "an initialiser block");
                }
            }
            if (fields > MOST_FIELDS) {
                refuse(tree, fields + " fields");
            }
            return super.visitClass(tree, none);
        }

        @Override
        public Void visitMethod(MethodTree tree, Void none) {
            long start = trees.getSourcePositions().getStartPosition(unit, tree);
            long end = trees.getSourcePositions().getEndPosition(unit, tree);
            if (end >= 0 && lineOf(end) - lineOf(start) >= MOST_LINES) {
                refuse(tree, "a method of over " + MOST_LINES + " lines");
            }
            if (tree.getParameters().size() > MOST_PARAMETERS) {
                refuse(tree, "a method of over " + MOST_PARAMETERS + " parameters");
            }
            checkName(tree);
            Element before = inMethod;
            inMethod = trees.getElement(getCurrentPath());
            methods.add(inMethod);
            super.visitMethod(tree, none);
            inMethod = before;
            return null;
        }

        private void checkName(MethodTree tree) {
            boolean isFace = tree.getModifiers().getFlags().contains(javax.lang.model.element.Modifier.PUBLIC);
            for (String face : FACE) {
                if (!isFace && face.contains(" " + tree.getName() + "(")) {
                    refuse(tree, "a method of its own bears the face's name " + face);
                }
            }
        }

        @Override
        public Void visitThrow(ThrowTree tree, Void none) {
            if (!(tree.getExpression() instanceof NewClassTree made) || made.getArguments().size() > 1
                    || made.getArguments().stream().anyMatch(text -> text.getKind() != Tree.Kind.STRING_LITERAL)) {
                refuse(tree, "a throw of something else than a new exception with a written text");
            }
            if (inMethod != null && inMethod.getKind() == ElementKind.CONSTRUCTOR) {
                refuse(tree, "a throw in a constructor");
            }
            return super.visitThrow(tree, none);
        }

        @Override
        public Void visitForLoop(ForLoopTree tree, Void none) {
            if (tree.getCondition() == null || tree.getUpdate().isEmpty()) {
                refuse(tree, "a loop without a bound");
            }
            return super.visitForLoop(tree, none);
        }

        @Override
        public Void visitMethodInvocation(MethodInvocationTree tree, Void none) {
            note(trees.getElement(new com.sun.source.util.TreePath(getCurrentPath(), tree.getMethodSelect())), tree);
            return super.visitMethodInvocation(tree, none);
        }

        @Override
        public Void visitNewClass(NewClassTree tree, Void none) {
            note(trees.getElement(getCurrentPath()), tree);
            return super.visitNewClass(tree, none);
        }

        @Override
        public Void visitNewArray(NewArrayTree tree, Void none) {
            if (inMethod != null && inMethod.getKind() == ElementKind.METHOD) {
                refuse(tree, "an array is made in a call");
            }
            return super.visitNewArray(tree, none);
        }

        private void note(Element called, Tree tree) {
            if (!(called instanceof ExecutableElement)) {
                refuse(tree, "a call that is not known");
                return;
            }
            String owner = called.getEnclosingElement().toString();
            if (owner.startsWith("KeptParts")) {
                if (inMethod != null) {
                    calls.computeIfAbsent(inMethod, any -> new LinkedHashSet<>()).add(called);
                }
            } else if (called.getKind() == ElementKind.CONSTRUCTOR) {
                if (!owner.equals("java.lang.Object") && !owner.endsWith("Exception")) {
                    refuse(tree, "new " + owner);
                }
            } else if (!LIBRARY.contains(owner + "." + called)) {
                refuse(tree, owner + "." + called);
            }
        }
    }
}

import com.sun.source.tree.*;
import com.sun.source.util.*;
import java.lang.reflect.Constructor;
import java.lang.reflect.Field;
import java.lang.reflect.Method;
import java.lang.reflect.Modifier;
import java.nio.file.Files;
import java.nio.file.Path;
import java.util.*;
import javax.lang.model.element.Element;
import javax.lang.model.element.ElementKind;
import javax.tools.*;

/** That the class keeps to LANGUAGE.md, as far as a machine can read it from the source, and has the document's face. */
public final class LanguageRules {
    private static final Path SOURCE = Path.of("src/main/java/WhichClub.java");
    private static final Path DOC = Path.of("../shared/DOC.md");
    private static int wrong = 0;

    private static void fault(int rule, String what) {
        wrong++;
        System.out.println("rule " + rule + ": " + what);
    }

    public static void main(String[] args) throws Exception {
        face();
        JavaCompiler compiler = ToolProvider.getSystemJavaCompiler();
        try (StandardJavaFileManager files = compiler.getStandardFileManager(null, null, null)) {
            JavacTask task = (JavacTask) compiler.getTask(null, files, null, List.of("-proc:none"), null,
                files.getJavaFileObjects(SOURCE));
            CompilationUnitTree unit = task.parse().iterator().next();
            task.analyze();
            Reader reader = new Reader(Trees.instance(task), unit);
            reader.scan(unit, null);
            reader.finish();
        }
        System.out.println(wrong == 0 ? "the rules are kept" : wrong + " faults");
        if (wrong != 0) {
            System.exit(1);
        }
    }

    /** Rule 1: the public members are the document's, and there are no other visible ones. */
    private static void face() throws Exception {
        TreeSet<String> want = new TreeSet<>();
        boolean inside = false;
        for (String line : Files.readAllLines(DOC)) {
            if (line.startsWith("```")) {
                inside = line.equals("```java");
            } else if (inside && line.startsWith("    public ") && line.contains("(")) {
                want.add(line.trim().replaceAll(" [a-zA-Z]+(?=[,)])", "").replace("public ", "").replace(";", ""));
            }
        }
        TreeSet<String> got = new TreeSet<>();
        for (Method m : WhichClub.class.getDeclaredMethods()) {
            if (Modifier.isPublic(m.getModifiers())) {
                got.add(m.getReturnType().getName() + " " + m.getName() + "(" + names(m.getParameterTypes()) + ")");
            } else if (!Modifier.isPrivate(m.getModifiers()) && !m.isSynthetic()) {
                fault(1, "visible: " + m);
            }
        }
        for (Constructor<?> c : WhichClub.class.getDeclaredConstructors()) {
            got.add("WhichClub(" + names(c.getParameterTypes()) + ")");
        }
        if (want.size() != 38 || !want.equals(got)) {
            fault(1, "the face is " + got + ", due is " + want);
        }
        Set<String> constants = new TreeSet<>();
        for (Field f : WhichClub.class.getDeclaredFields()) {
            if (Modifier.isPublic(f.getModifiers())) {
                constants.add(f.getName());
            } else if (!Modifier.isPrivate(f.getModifiers()) && !f.isSynthetic()) {
                fault(1, "visible: " + f);
            }
        }
        if (!constants.equals(Set.of("BAD", "NOT", "FULL", "STATE", "VOID"))) {
            fault(1, "the constants are " + constants);
        }
        if (!Modifier.isFinal(WhichClub.class.getModifiers())) {
            fault(1, "the class is not final");
        }
    }

    private static String names(Class<?>[] types) {
        StringJoiner joined = new StringJoiner(", ");
        for (Class<?> t : types) {
            joined.add(t.getName());
        }
        return joined.toString();
    }

    private static final class Reader extends TreePathScanner<Void, Void> {
        private static final Set<Tree.Kind> FORBIDDEN = EnumSet.of(Tree.Kind.THROW, Tree.Kind.TRY, Tree.Kind.CATCH,
            Tree.Kind.SYNCHRONIZED, Tree.Kind.ASSERT, Tree.Kind.LAMBDA_EXPRESSION, Tree.Kind.MEMBER_REFERENCE);
        private static final Set<String> LIBRARY = Set.of("java.lang.Math", "java.lang.Integer", "java.lang.Long",
            "java.lang.String", "java.lang.StringBuilder", "java.util.ArrayList", "java.util.List");
        private static final Set<String> STRING = Set.of("length", "charAt", "isEmpty", "equals", "indexOf", "substring", "toCharArray");
        private static final Set<String> ARRAYS = Set.of("copyOf", "copyOfRange", "fill");

        private final Trees trees;
        private final CompilationUnitTree unit;
        private final Map<Element, Set<Element>> calls = new HashMap<>();
        private final Set<String> publicNames = new HashSet<>();
        private final List<String> privateNames = new ArrayList<>();
        private Element method = null;
        private int classes = 0;

        Reader(Trees trees, CompilationUnitTree unit) {
            this.trees = trees;
            this.unit = unit;
        }

        private Element here(Tree tree) {
            return trees.getElement(TreePath.getPath(unit, tree));
        }

        private int lines(Tree tree) {
            SourcePositions at = trees.getSourcePositions();
            LineMap map = unit.getLineMap();
            return (int) (map.getLineNumber(at.getEndPosition(unit, tree)) - map.getLineNumber(at.getStartPosition(unit, tree)) + 1);
        }

        @Override
        public Void scan(Tree tree, Void none) {
            if (tree != null && FORBIDDEN.contains(tree.getKind())) {
                fault(6, tree.getKind() + ": " + tree);
            }
            return super.scan(tree, none);
        }

        @Override
        public Void visitImport(ImportTree tree, Void none) {
            String name = tree.getQualifiedIdentifier().toString();
            if (!Set.of("java.util.Arrays", "java.util.ArrayList", "java.util.List", "java.util.Iterator").contains(name)) {
                fault(4, "import " + name);
            }
            return super.visitImport(tree, none);
        }

        @Override
        public Void visitClass(ClassTree tree, Void none) {
            classes++;
            Set<javax.lang.model.element.Modifier> flags = tree.getModifiers().getFlags();
            boolean isNested = getCurrentPath().getParentPath().getLeaf() instanceof ClassTree;
            if (isNested && !flags.contains(javax.lang.model.element.Modifier.STATIC)) {
                fault(2, "not static: " + tree.getSimpleName());
            }
            if (isNested && (flags.contains(javax.lang.model.element.Modifier.PUBLIC) || flags.contains(javax.lang.model.element.Modifier.PROTECTED))) {
                fault(1, "visible: " + tree.getSimpleName());
            }
            int fields = 0;
            for (Tree member : tree.getMembers()) {
                if (member instanceof VariableTree v) {
                    fields += field(v) ? 1 : 0;
                } else if (member instanceof BlockTree) {
                    fault(5, "an initialiser block in " + tree.getSimpleName());
                }
            }
            if (fields > 20) {
                fault(11, tree.getSimpleName() + " has " + fields + " fields");
            }
            return super.visitClass(tree, none);
        }

        /** Whether it is a field of its own for each object. */
        private boolean field(VariableTree v) {
            Set<javax.lang.model.element.Modifier> flags = v.getModifiers().getFlags();
            if (!flags.contains(javax.lang.model.element.Modifier.STATIC)) {
                return true;
            }
            String type = v.getType().toString();
            if (!flags.contains(javax.lang.model.element.Modifier.FINAL)
                || !Set.of("int", "long", "boolean", "char", "String", "int[]", "long[]", "char[]", "byte[]").contains(type)) {
                fault(5, v.toString());
            }
            return false;
        }

        @Override
        public Void visitMethod(MethodTree tree, Void none) {
            Element before = method;
            method = here(tree);
            calls.computeIfAbsent(method, m -> new LinkedHashSet<>());
            String name = tree.getName().toString();
            if (tree.getParameters().size() > 7) {
                fault(11, name + " takes " + tree.getParameters().size());
            }
            if (lines(tree) > 60) {
                fault(11, name + " has " + lines(tree) + " lines");
            }
            if (method.getModifiers().contains(javax.lang.model.element.Modifier.PUBLIC)) {
                publicNames.add(name);
            } else if (!name.equals("<init>")) {
                privateNames.add(name);
            }
            super.visitMethod(tree, none);
            method = before;
            return null;
        }

        @Override
        public Void visitMethodInvocation(MethodInvocationTree tree, Void none) {
            called(here(tree));
            return super.visitMethodInvocation(tree, none);
        }

        @Override
        public Void visitNewClass(NewClassTree tree, Void none) {
            if (tree.getClassBody() != null) {
                fault(2, "anonymous: " + tree);
            }
            called(here(tree));
            madeIn(tree);
            return super.visitNewClass(tree, none);
        }

        @Override
        public Void visitNewArray(NewArrayTree tree, Void none) {
            madeIn(tree);
            return super.visitNewArray(tree, none);
        }

        /** All calls of one run share one room: what there is, is made with the object, and none of it by a call. */
        private void madeIn(Tree tree) {
            if (method != null && method.getKind() != ElementKind.CONSTRUCTOR) {
                fault(12, method + " makes " + tree);
            }
        }

        private void called(Element to) {
            String owner = to.getEnclosingElement().toString();
            String name = to.getSimpleName().toString();
            if (owner.startsWith("WhichClub")) {
                if (method != null) {
                    calls.get(method).add(to);
                }
                return;
            }
            boolean isAllowed = LIBRARY.contains(owner) && !name.endsWith("Exact")
                || owner.equals("java.util.Arrays") && ARRAYS.contains(name)
                || owner.equals("java.lang.System") && name.equals("arraycopy")
                || owner.equals("java.lang.Object") && name.equals("<init>");
            if (!isAllowed || owner.equals("java.lang.String") && !STRING.contains(name)) {
                fault(4, owner + "." + name);
            }
        }

        @Override
        public Void visitBinary(BinaryTree tree, Void none) {
            boolean isText = trees.getTypeMirror(getCurrentPath()).toString().equals("java.lang.String");
            if (isText) {
                fault(10, "texts joined by +: " + tree);
            }
            return super.visitBinary(tree, none);
        }

        void finish() {
            if (classes > 12) {
                fault(11, classes + " classes");
            }
            for (String name : privateNames) {
                if (publicNames.contains(name)) {
                    fault(1, "a method bears the name of a public one: " + name);
                }
            }
            for (Element m : calls.keySet()) {
                List<Element> deepest = deepest(m, new ArrayList<>());
                if (m.getModifiers().contains(javax.lang.model.element.Modifier.PUBLIC) && deepest.size() > 8) {
                    fault(11, deepest.size() + " calls deep: " + deepest);
                }
                if (!m.getModifiers().contains(javax.lang.model.element.Modifier.PRIVATE) && reached(m).contains(m)) {
                    fault(8, m + " comes back to itself and is not private");
                }
            }
        }

        /** All that a method calls, and what these call. */
        private Set<Element> reached(Element from) {
            Set<Element> all = new LinkedHashSet<>(calls.get(from));
            List<Element> open = new ArrayList<>(all);
            for (int i = 0; i < open.size(); i++) {
                for (Element to : calls.getOrDefault(open.get(i), Set.of())) {
                    if (all.add(to)) {
                        open.add(to);
                    }
                }
            }
            return all;
        }

        /** The longest chain of calls in which no method comes twice. */
        private List<Element> deepest(Element from, List<Element> open) {
            List<Element> best = List.of();
            open.add(from);
            for (Element to : calls.getOrDefault(from, Set.of())) {
                if (!open.contains(to) && to.getKind() != ElementKind.CONSTRUCTOR) {
                    List<Element> chain = deepest(to, open);
                    best = chain.size() > best.size() ? chain : best;
                }
            }
            open.remove(open.size() - 1);
            List<Element> chain = new ArrayList<>();
            chain.add(from);
            chain.addAll(best);
            return chain;
        }
    }
}

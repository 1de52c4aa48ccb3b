import com.sun.source.tree.AssertTree;
import com.sun.source.tree.BinaryTree;
import com.sun.source.tree.BlockTree;
import com.sun.source.tree.ClassTree;
import com.sun.source.tree.CompilationUnitTree;
import com.sun.source.tree.IdentifierTree;
import com.sun.source.tree.LambdaExpressionTree;
import com.sun.source.tree.MemberReferenceTree;
import com.sun.source.tree.MethodInvocationTree;
import com.sun.source.tree.MethodTree;
import com.sun.source.tree.NewArrayTree;
import com.sun.source.tree.NewClassTree;
import com.sun.source.tree.SynchronizedTree;
import com.sun.source.tree.ThrowTree;
import com.sun.source.tree.Tree;
import com.sun.source.tree.TryTree;
import com.sun.source.tree.VariableTree;
import com.sun.source.tree.WhileLoopTree;
import com.sun.source.util.JavacTask;
import com.sun.source.util.TreePathScanner;
import com.sun.source.util.Trees;
import java.nio.file.Files;
import java.nio.file.Path;
import java.util.ArrayList;
import java.util.HashMap;
import java.util.HashSet;
import java.util.List;
import java.util.Map;
import java.util.Set;
import java.util.TreeSet;
import java.util.regex.Matcher;
import java.util.regex.Pattern;
import javax.lang.model.element.Element;
import javax.lang.model.element.ExecutableElement;
import javax.lang.model.element.Modifier;
import javax.tools.JavaCompiler;
import javax.tools.StandardJavaFileManager;
import javax.tools.ToolProvider;

/** The class keeps to the rules of LANGUAGE.md, as far as its source shows. */
public final class LanguageTest {
    private static final Check CHECK = new Check("language");
    private static final int MOST_LINES = 60, MOST_PARAMETERS = 7, MOST_CLASSES = 12, MOST_FIELDS = 20, DEEPEST = 8;
    private static final Set<String> LIBRARY = Set.of("System.arraycopy", "Math.max", "Integer.bitCount",
        "String.charAt", "String.length", "String.indexOf", "Object.<init>");
    private static final Set<String> CONSTANTS = Set.of("int", "long", "boolean", "char", "String", "int[]", "long[]",
        "char[]", "byte[]");

    public static void main(String[] args) throws Exception {
        Path file = Path.of(args.length > 0 ? args[0] : "src/main/java/WingPort.java");
        JavaCompiler javac = ToolProvider.getSystemJavaCompiler();
        StandardJavaFileManager files = javac.getStandardFileManager(null, null, null);
        JavacTask task = (JavacTask) javac.getTask(null, files, null, List.of("-proc:none"), null,
            files.getJavaFileObjects(file));
        CompilationUnitTree unit = task.parse().iterator().next();
        task.analyze();
        CHECK.holds("no package", unit.getPackageName() == null);
        CHECK.due("imports", unit.getImports().size(), 0);
        CHECK.due("classes in the file, outermost", unit.getTypeDecls().size(), 1);
        Scan scan = new Scan(unit, Trees.instance(task));
        scan.scan(unit, null);
        CHECK.holds("classes: " + scan.classes, scan.classes <= MOST_CLASSES);
        face(Files.readString(Path.of("../shared/DOC.md")), scan);
        depth(scan);
        for (char c : Files.readString(file).toCharArray()) {
            CHECK.holds("sign " + (int) c, c == '\n' || c >= 32 && c < 127);
        }
        CHECK.end();
    }

    /** The public members are those of the document's face, and no private method bears such a name. */
    private static void face(String doc, Scan scan) {
        String text = doc.substring(doc.indexOf("public final class WingPort {"), doc.indexOf("## Terms"));
        Matcher each = Pattern.compile("public (?:int|long) (\\w+\\(.*?\\));").matcher(text);
        Set<String> promised = new TreeSet<>();
        Set<String> names = new HashSet<>();
        while (each.find()) {
            promised.add(each.group(1).replaceAll("(int|long) \\w+", "$1"));
            names.add(each.group(1).replaceAll("\\(.*", ""));
        }
        CHECK.due("methods promised", promised.size(), 32);
        Set<String> open = new TreeSet<>();
        for (java.lang.reflect.Method m : WingPort.class.getDeclaredMethods()) {
            if (!java.lang.reflect.Modifier.isPrivate(m.getModifiers()) && !m.isSynthetic()) {
                StringBuilder told = new StringBuilder(m.getName()).append('(');
                for (Class<?> type : m.getParameterTypes()) {
                    told.append(told.toString().endsWith("(") ? "" : ", ").append(type.getName());
                }
                open.add(told.append(')').toString());
            }
        }
        CHECK.holds("the face " + open + " is " + promised, open.equals(promised));
        for (String method : scan.ownMethods) {
            CHECK.holds("private method " + method, !names.contains(method));
        }
        for (java.lang.reflect.Field f : WingPort.class.getDeclaredFields()) {
            boolean constant = Set.of("NONE", "BAD", "STATE", "FULL", "NO").contains(f.getName());
            boolean hidden = java.lang.reflect.Modifier.isPrivate(f.getModifiers());
            CHECK.holds("field " + f.getName(), constant != hidden);
        }
        CHECK.due("constructors", WingPort.class.getDeclaredConstructors().length, 1);
    }

    /** Calls go at most so deep, what calls one another counted as one. */
    private static void depth(Scan scan) {
        Map<String, Integer> known = new HashMap<>();
        for (String method : scan.calls.keySet()) {
            int deep = depthOf(method, scan, known, new ArrayList<>());
            CHECK.holds("calls from " + method + " go " + deep + " deep", deep <= DEEPEST);
        }
    }

    private static int depthOf(String method, Scan scan, Map<String, Integer> known, List<String> open) {
        if (known.containsKey(method)) {
            return known.get(method);
        }
        open.add(method);
        int deepest = 0;
        Set<String> circle = circleOf(method, scan);
        Set<String> next = new HashSet<>();
        for (String in : circle) {
            next.addAll(scan.calls.getOrDefault(in, Set.of()));
        }
        next.removeAll(circle);
        for (String callee : next) {
            deepest = Math.max(deepest, depthOf(callee, scan, known, open));
        }
        known.put(method, deepest + 1);
        return deepest + 1;
    }

    private static Set<String> circleOf(String method, Scan scan) {
        Set<String> circle = new HashSet<>(Set.of(method));
        for (String other : reach(method, scan)) {
            if (reach(other, scan).contains(method)) {
                circle.add(other);
            }
        }
        return circle;
    }

    private static Set<String> reach(String method, Scan scan) {
        Set<String> found = new HashSet<>();
        List<String> todo = new ArrayList<>(scan.calls.getOrDefault(method, Set.of()));
        while (!todo.isEmpty()) {
            String next = todo.remove(todo.size() - 1);
            if (found.add(next)) {
                todo.addAll(scan.calls.getOrDefault(next, Set.of()));
            }
        }
        return found;
    }

    private static final class Scan extends TreePathScanner<Void, Void> {
        private final CompilationUnitTree unit;
        private final Trees trees;
        int classes;
        final Set<String> ownMethods = new TreeSet<>();
        final Map<String, Set<String>> calls = new HashMap<>();
        private String method;

        Scan(CompilationUnitTree unit, Trees trees) {
            this.unit = unit;
            this.trees = trees;
        }

        private long line(long position) {
            return unit.getLineMap().getLineNumber(position);
        }

        private void never(String what, Tree tree) {
            CHECK.holds("no " + what + " in line " + line(trees.getSourcePositions().getStartPosition(unit, tree)), false);
        }

        @Override
        public Void visitClass(ClassTree node, Void p) {
            classes++;
            Set<Modifier> flags = node.getModifiers().getFlags();
            boolean inside = getCurrentPath().getParentPath().getLeaf() instanceof ClassTree;
            CHECK.holds("class " + node.getSimpleName() + " is static or outermost",
                inside ? flags.contains(Modifier.STATIC) && !flags.contains(Modifier.PUBLIC) : classes == 1);
            int fields = 0;
            for (Tree member : node.getMembers()) {
                if (member instanceof BlockTree) {
                    never("initialiser block", member);
                }
                if (member instanceof VariableTree) {
                    fields += constant((VariableTree) member) ? 0 : 1;
                }
            }
            CHECK.holds("fields of " + node.getSimpleName() + ": " + fields, fields <= MOST_FIELDS);
            return super.visitClass(node, p);
        }

        private boolean constant(VariableTree field) {
            if (!field.getModifiers().getFlags().contains(Modifier.STATIC)) {
                return false;
            }
            boolean still = field.getModifiers().getFlags().contains(Modifier.FINAL) && field.getInitializer() != null;
            CHECK.holds("static " + field.getName() + " is a constant",
                still && CONSTANTS.contains(field.getType().toString()));
            return true;
        }

        @Override
        public Void visitMethod(MethodTree node, Void p) {
            Element element = trees.getElement(getCurrentPath());
            method = element.getEnclosingElement().getSimpleName() + "." + node.getName();
            calls.computeIfAbsent(method, k -> new HashSet<>());
            boolean open = element.getModifiers().contains(Modifier.PUBLIC);
            CHECK.holds("public " + method, open == method.startsWith("WingPort.") || !open);
            if (!open) {
                ownMethods.add(node.getName().toString());
            }
            CHECK.holds("parameters of " + method, node.getParameters().size() <= MOST_PARAMETERS);
            long start = trees.getSourcePositions().getStartPosition(unit, node);
            long end = trees.getSourcePositions().getEndPosition(unit, node);
            if (start >= 0 && end >= 0) {
                CHECK.holds("lines of " + method, line(end) - line(start) < MOST_LINES);
            }
            super.visitMethod(node, p);
            method = null;
            return null;
        }

        @Override
        public Void visitMethodInvocation(MethodInvocationTree node, Void p) {
            ExecutableElement callee = (ExecutableElement) trees.getElement(getCurrentPath());
            String owner = callee.getEnclosingElement().getSimpleName().toString();
            String name = owner + "." + callee.getSimpleName();
            boolean own = callee.getEnclosingElement().toString().startsWith("WingPort");
            CHECK.holds("call of " + name, own || LIBRARY.contains(name));
            if (own && method != null) {
                calls.get(method).add(name);
            }
            return super.visitMethodInvocation(node, p);
        }

        @Override
        public Void visitNewClass(NewClassTree node, Void p) {
            if (node.getClassBody() != null) {
                never("anonymous class", node);
            }
            return made(node, super.visitNewClass(node, p));
        }

        @Override
        public Void visitNewArray(NewArrayTree node, Void p) {
            return made(node, super.visitNewArray(node, p));
        }

        /** All rows are made with the object, so that no call makes any. */
        private Void made(Tree node, Void p) {
            if (method != null && !method.endsWith(".<init>")) {
                never("object or array that a call makes", node);
            }
            return p;
        }

        @Override
        public Void visitBinary(BinaryTree node, Void p) {
            boolean joins = node.getKind() == Tree.Kind.PLUS
                && String.valueOf(trees.getTypeMirror(getCurrentPath())).equals("java.lang.String");
            if (joins) {
                never("+ of texts", node);
            }
            if (node.getKind() == Tree.Kind.DIVIDE || node.getKind() == Tree.Kind.REMAINDER) {
                never("divisor that wasn't looked at", node);
            }
            return super.visitBinary(node, p);
        }

        @Override
        public Void visitIdentifier(IdentifierTree node, Void p) {
            CHECK.holds("name " + node.getName(), !Set.of("Exception", "RuntimeException", "Throwable", "Object",
                "Thread", "Random").contains(node.getName().toString()));
            return super.visitIdentifier(node, p);
        }

        @Override
        public Void visitWhileLoop(WhileLoopTree node, Void p) {
            CHECK.holds("while " + node.getCondition() + " has a bound", node.getCondition().toString().contains("at < size"));
            return super.visitWhileLoop(node, p);
        }

        @Override
        public Void visitThrow(ThrowTree node, Void p) {
            never("throw", node);
            return null;
        }

        @Override
        public Void visitTry(TryTree node, Void p) {
            never("try", node);
            return null;
        }

        @Override
        public Void visitAssert(AssertTree node, Void p) {
            never("assert", node);
            return null;
        }

        @Override
        public Void visitSynchronized(SynchronizedTree node, Void p) {
            never("synchronized", node);
            return null;
        }

        @Override
        public Void visitLambdaExpression(LambdaExpressionTree node, Void p) {
            never("lambda", node);
            return null;
        }

        @Override
        public Void visitMemberReference(MemberReferenceTree node, Void p) {
            never("method reference", node);
            return null;
        }
    }
}

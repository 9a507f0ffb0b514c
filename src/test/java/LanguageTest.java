import com.sun.source.tree.AssertTree;
import com.sun.source.tree.BinaryTree;
import com.sun.source.tree.ClassTree;
import com.sun.source.tree.CompilationUnitTree;
import com.sun.source.tree.ImportTree;
import com.sun.source.tree.LambdaExpressionTree;
import com.sun.source.tree.MemberReferenceTree;
import com.sun.source.tree.MethodInvocationTree;
import com.sun.source.tree.MethodTree;
import com.sun.source.tree.NewClassTree;
import com.sun.source.tree.SynchronizedTree;
import com.sun.source.tree.ThrowTree;
import com.sun.source.tree.Tree;
import com.sun.source.tree.TryTree;
import com.sun.source.tree.VariableTree;
import com.sun.source.util.JavacTask;
import com.sun.source.util.TreePath;
import com.sun.source.util.TreePathScanner;
import com.sun.source.util.Trees;
import java.lang.reflect.Constructor;
import java.lang.reflect.Field;
import java.lang.reflect.Method;
import java.lang.reflect.Modifier;
import java.nio.file.Files;
import java.nio.file.Path;
import java.util.HashMap;
import java.util.HashSet;
import java.util.List;
import java.util.Map;
import java.util.Set;
import java.util.TreeSet;
import java.util.regex.Matcher;
import java.util.regex.Pattern;
import javax.lang.model.element.Element;
import javax.lang.model.element.ExecutableElement;
import javax.lang.model.type.TypeMirror;
import javax.tools.JavaCompiler;
import javax.tools.StandardJavaFileManager;
import javax.tools.ToolProvider;

/** The public face, and those rules of LANGUAGE.md that can be read off the source. */
public final class LanguageTest {
    private static final Path ROOT = Path.of(System.getProperty("stairnews.root", "."));
    private static final Set<String> LIBRARY = Set.of("length", "charAt", "isEmpty", "equals", "indexOf", "substring",
            "toCharArray", "append", "setCharAt", "setLength", "deleteCharAt", "reverse", "toString", "add", "get", "set",
            "remove", "size", "clear", "bitCount", "numberOfTrailingZeros", "max", "min", "abs", "compare", "floorDiv",
            "floorMod", "arraycopy", "copyOf", "copyOfRange", "fill", "clone");

    public static void main(String[] args) throws Exception {
        face();
        Path source = ROOT.resolve("src/main/java/StairNews.java");
        JavaCompiler compiler = ToolProvider.getSystemJavaCompiler();
        try (StandardJavaFileManager files = compiler.getStandardFileManager(null, null, null)) {
            JavacTask task = (JavacTask) compiler.getTask(null, files, null, List.of("-proc:none"), null,
                    files.getJavaFileObjects(source.toFile()));
            CompilationUnitTree unit = task.parse().iterator().next();
            task.analyze();
            Reader reader = new Reader(Trees.instance(task), unit);
            reader.scan(unit, null);
            reader.finish();
        }
        Due.finish();
    }

    private static void face() throws Exception {
        String document = Files.readString(ROOT.resolve("../shared/DOC.md"));
        Set<String> due = new TreeSet<>();
        Matcher lines = Pattern.compile("    public (?:static final )?([^;]*);").matcher(document);
        while (lines.find()) {
            due.add(lines.group(1).replaceAll("(int|boolean) (\\w+)(?=[,)])", "$1").replaceAll(" = .*", ""));
        }
        Set<String> is = new TreeSet<>();
        for (Method m : StairNews.class.getDeclaredMethods()) {
            if (!Modifier.isPrivate(m.getModifiers()) && !m.isSynthetic()) {
                is.add(m.getReturnType() + " " + m.getName() + types(m.getParameterTypes()));
            }
        }
        for (Constructor<?> c : StairNews.class.getDeclaredConstructors()) {
            if (!Modifier.isPrivate(c.getModifiers())) {
                is.add(c.getName() + types(c.getParameterTypes()));
            }
        }
        for (Field f : StairNews.class.getDeclaredFields()) {
            if (!Modifier.isPrivate(f.getModifiers())) {
                is.add(f.getType() + " " + f.getName());
            }
        }
        says(is.equals(due), "the face is " + is + ", not " + due);
        says(Modifier.isFinal(StairNews.class.getModifiers()), "the class is not final");
        Due.is("methods of the face", is.size(), 32);
    }

    private static String types(Class<?>[] types) {
        StringBuilder all = new StringBuilder("(");
        for (int i = 0; i < types.length; i++) {
            all.append(i > 0 ? ", " : "").append(types[i]);
        }
        return all.append(")").toString();
    }

    private static void says(boolean so, String what) {
        Due.is(what, so, true);
    }

    private static final class Reader extends TreePathScanner<Void, Void> {
        private final Trees trees;
        private final CompilationUnitTree unit;
        private final Set<String> face = new HashSet<>();
        private final Map<Element, Set<Element>> calls = new HashMap<>();
        private final Map<Element, Integer> depths = new HashMap<>();
        private final Set<Element> open = new HashSet<>();
        private Element method;
        private int classes;

        Reader(Trees trees, CompilationUnitTree unit) {
            this.trees = trees;
            this.unit = unit;
            for (Method m : StairNews.class.getDeclaredMethods()) {
                if (Modifier.isPublic(m.getModifiers())) {
                    face.add(m.getName());
                }
            }
        }

        private String line(Tree tree) {
            return "line " + unit.getLineMap().getLineNumber(trees.getSourcePositions().getStartPosition(unit, tree));
        }

        private long lines(Tree tree) {
            long from = trees.getSourcePositions().getStartPosition(unit, tree);
            long to = trees.getSourcePositions().getEndPosition(unit, tree);
            return unit.getLineMap().getLineNumber(to) - unit.getLineMap().getLineNumber(from) + 1;
        }

        @Override
        public Void visitImport(ImportTree tree, Void v) {
            String name = tree.getQualifiedIdentifier().toString();
            says(name.equals("java.util.Arrays") || name.equals("java.util.ArrayList") || name.equals("java.util.List"),
                    line(tree) + ": import " + name);
            return super.visitImport(tree, v);
        }

        @Override
        public Void visitClass(ClassTree tree, Void v) {
            classes++;
            boolean outer = tree.getSimpleName().contentEquals("StairNews");
            String modifiers = tree.getModifiers().getFlags().toString();
            says(outer || modifiers.contains("static"), line(tree) + ": a class inside that is not static");
            int fields = 0;
            for (Tree member : tree.getMembers()) {
                if (member instanceof VariableTree) {
                    VariableTree field = (VariableTree) member;
                    String flags = field.getModifiers().getFlags().toString();
                    fields += flags.contains("static") ? 0 : 1;
                    says(!flags.contains("static") || flags.contains("final"), line(member) + ": a static field not final");
                }
            }
            says(fields <= 20, line(tree) + ": " + fields + " fields");
            return super.visitClass(tree, v);
        }

        @Override
        public Void visitMethod(MethodTree tree, Void v) {
            method = trees.getElement(getCurrentPath());
            calls.put(method, new HashSet<>());
            boolean isPublic = tree.getModifiers().getFlags().toString().contains("public");
            says(isPublic || !face.contains(tree.getName().toString()), line(tree) + ": a name of the face");
            says(tree.getParameters().size() <= 7, line(tree) + ": too many parameters");
            says(lines(tree) <= 60, line(tree) + ": " + lines(tree) + " lines");
            super.visitMethod(tree, v);
            method = null;
            return null;
        }

        @Override
        public Void visitMethodInvocation(MethodInvocationTree tree, Void v) {
            Element called = trees.getElement(new TreePath(getCurrentPath(), tree.getMethodSelect()));
            note(called);
            if (called instanceof ExecutableElement && called.getEnclosingElement().toString().startsWith("java.")) {
                String name = called.getSimpleName().toString();
                says(LIBRARY.contains(name) || name.equals("<init>"), line(tree) + ": the library's " + called);
            }
            return super.visitMethodInvocation(tree, v);
        }

        private void note(Element called) {
            if (method != null && called != null && called.getEnclosingElement().toString().startsWith("StairNews")) {
                calls.get(method).add(called);
            }
        }

        @Override
        public Void visitNewClass(NewClassTree tree, Void v) {
            says(tree.getClassBody() == null, line(tree) + ": an anonymous class");
            says(method == null || method.getSimpleName().contentEquals("<init>"),
                    line(tree) + ": an object made outside a constructor");
            note(trees.getElement(getCurrentPath()));
            return super.visitNewClass(tree, v);
        }

        @Override
        public Void visitBinary(BinaryTree tree, Void v) {
            TypeMirror type = trees.getTypeMirror(getCurrentPath());
            says(!String.valueOf(type).equals("java.lang.String"), line(tree) + ": texts joined by +");
            return super.visitBinary(tree, v);
        }

        @Override
        public Void visitThrow(ThrowTree tree, Void v) {
            says(false, line(tree) + ": throw");
            return null;
        }

        @Override
        public Void visitTry(TryTree tree, Void v) {
            says(false, line(tree) + ": try");
            return null;
        }

        @Override
        public Void visitSynchronized(SynchronizedTree tree, Void v) {
            says(false, line(tree) + ": synchronized");
            return null;
        }

        @Override
        public Void visitAssert(AssertTree tree, Void v) {
            says(false, line(tree) + ": assert");
            return null;
        }

        @Override
        public Void visitLambdaExpression(LambdaExpressionTree tree, Void v) {
            says(false, line(tree) + ": a lambda");
            return null;
        }

        @Override
        public Void visitMemberReference(MemberReferenceTree tree, Void v) {
            says(false, line(tree) + ": a method reference");
            return null;
        }

        /** The deepest chain of calls from here; a call back into the chain is recursion and counts no more. */
        private int depth(Element from) {
            if (depths.containsKey(from) || !calls.containsKey(from)) {
                return depths.getOrDefault(from, 1);
            }
            open.add(from);
            int deepest = 0;
            for (Element to : calls.get(from)) {
                deepest = Math.max(deepest, open.contains(to) ? 0 : depth(to));
            }
            open.remove(from);
            depths.put(from, deepest + 1);
            return deepest + 1;
        }

        void finish() {
            says(classes <= 12, classes + " classes");
            for (Element m : calls.keySet()) {
                says(depth(m) <= 8, m + " calls " + depth(m) + " deep");
            }
        }
    }
}

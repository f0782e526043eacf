import com.sun.source.tree.AssertTree;
import com.sun.source.tree.BinaryTree;
import com.sun.source.tree.BlockTree;
import com.sun.source.tree.ClassTree;
import com.sun.source.tree.CompilationUnitTree;
import com.sun.source.tree.ImportTree;
import com.sun.source.tree.LambdaExpressionTree;
import com.sun.source.tree.LineMap;
import com.sun.source.tree.MemberReferenceTree;
import com.sun.source.tree.MemberSelectTree;
import com.sun.source.tree.MethodInvocationTree;
import com.sun.source.tree.MethodTree;
import com.sun.source.tree.NewClassTree;
import com.sun.source.tree.SynchronizedTree;
import com.sun.source.tree.Tree;
import com.sun.source.tree.ThrowTree;
import com.sun.source.tree.TryTree;
import com.sun.source.tree.VariableTree;
import com.sun.source.util.JavacTask;
import com.sun.source.util.SourcePositions;
import com.sun.source.util.TreePath;
import com.sun.source.util.TreePathScanner;
import com.sun.source.util.Trees;
import java.io.File;
import java.lang.reflect.Member;
import java.lang.reflect.Modifier;
import java.util.ArrayList;
import java.util.HashMap;
import java.util.HashSet;
import java.util.List;
import java.util.Map;
import java.util.Set;
import java.util.TreeSet;
import javax.lang.model.element.Element;
import javax.lang.model.element.ElementKind;
import javax.lang.model.element.ExecutableElement;
import javax.lang.model.element.TypeElement;
import javax.lang.model.util.Elements;
import javax.tools.JavaCompiler;
import javax.tools.StandardJavaFileManager;
import javax.tools.ToolProvider;

/** Those rules of LANGUAGE.md that a program can look at, and the face that the document tells. */
public final class LanguageTest {
    private static final Expect expect = new Expect();
    private static final Set<String> IMPORTS = Set.of(
        "java.util.Arrays", "java.util.ArrayList", "java.util.List", "java.util.Iterator");
    private static final Set<String> LIBRARY = Set.of(
        "String.length", "String.charAt", "String.isEmpty", "String.equals", "String.indexOf", "String.substring",
        "String.toCharArray", "StringBuilder.append", "StringBuilder.charAt", "StringBuilder.setCharAt",
        "StringBuilder.setLength", "StringBuilder.deleteCharAt", "StringBuilder.reverse", "StringBuilder.length",
        "StringBuilder.toString", "AbstractStringBuilder.length", "AbstractStringBuilder.charAt",
        "AbstractStringBuilder.setLength", "System.arraycopy", "Arrays.copyOf", "Arrays.copyOfRange", "Arrays.fill",
        "Integer.bitCount", "Math.max", "Math.min", "Object.<init>", "StringBuilder.<init>");
    private static final Set<String> FACE = Set.of(
        "int worker(int,int)", "int of(int,int)", "int set(int,int)", "int swap(int,int)", "int stay(int,boolean)",
        "int row(int,int,int)", "int feed(int)", "int works()", "int told(int)", "int pass(int)", "int on(int,int)",
        "int full(int,int)", "int best(int)", "int see(int,int,int)", "int had(int)", "int can(int,int)",
        "long odds(int,int,int)", "long mean(int,int)", "int plan(int,int)", "int ends(int)", "int book(int,int)",
        "int looked()", "int judge(int,int)", "int image()", "int undo()", "int act(int,int,int)", "int trace(int)",
        "int taken(int,int)", "int count(int)", "int tape(int,int,int)", "int item(int,int,long)",
        "long read(int,int)", "int shift(int,int,int,int,int)");

    private static LineMap lines;
    private static SourcePositions positions;
    private static CompilationUnitTree unit;
    private static Trees trees;
    private static Elements elements;
    /** Calls that reach one method, and those that may reach one below it. */
    private static final Map<ExecutableElement, Set<ExecutableElement>> calls = new HashMap<>();
    private static final Map<ExecutableElement, Set<ExecutableElement>> open = new HashMap<>();
    private static final List<TypeElement> classes = new ArrayList<>();

    public static void main(String[] args) throws Exception {
        face();
        File source = new File(args.length > 0 ? args[0] : ".", "src/main/java/PunchedSouls.java");
        read(source);
        expect.part("rule 11");
        expect.holds("at most 12 classes: " + classes, classes.size() <= 12);
        overrides();
        for (ExecutableElement method : calls.keySet()) {
            int depth = depth(method, new ArrayList<>());
            expect.holds("at most 8 deep: " + method + " goes " + depth, depth <= 8);
        }
        expect.end();
    }

    private static void face() throws Exception {
        expect.part("rule 1");
        Class<?> face = PunchedSouls.class;
        expect.holds("public final", face.getModifiers() == (Modifier.PUBLIC | Modifier.FINAL));
        Set<String> methods = new TreeSet<>();
        Set<String> publicNames = new HashSet<>();
        for (java.lang.reflect.Method m : face.getDeclaredMethods()) {
            if (Modifier.isPrivate(m.getModifiers())) continue;
            expect.holds(m + " is public and nothing else", m.getModifiers() == Modifier.PUBLIC);
            StringBuilder words = new StringBuilder();
            for (Class<?> type : m.getParameterTypes()) words.append(words.length() == 0 ? "" : ",").append(type);
            methods.add(m.getReturnType() + " " + m.getName() + "(" + words + ")");
            publicNames.add(m.getName());
        }
        expect.holds("the methods of the face, no more, no fewer: " + methods, methods.equals(new TreeSet<>(FACE)));
        expect.is("constructors", 1, face.getDeclaredConstructors().length);
        expect.holds("a public one", face.getConstructor().getModifiers() == Modifier.PUBLIC);
        Set<String> fields = new TreeSet<>();
        for (java.lang.reflect.Field f : face.getDeclaredFields()) {
            if (!Modifier.isPrivate(f.getModifiers())) fields.add(f.getType() + " " + f.getName());
        }
        expect.holds("the constants of the face: " + fields,
            fields.equals(new TreeSet<>(Set.of("int NONE", "int BAD", "int STATE", "int FULL", "long NO"))));
        List<Class<?>> all = new ArrayList<>(List.of(face.getDeclaredClasses()));
        all.add(face);
        for (Class<?> c : all) {
            expect.holds(c + " is static", c == face || Modifier.isStatic(c.getModifiers()));
            for (Member m : c.getDeclaredMethods()) {
                boolean isOwn = c != face || Modifier.isPrivate(m.getModifiers());
                expect.holds(m + " bears no public name", !isOwn || !publicNames.contains(m.getName()));
            }
        }
    }

    private static void read(File source) throws Exception {
        JavaCompiler javac = ToolProvider.getSystemJavaCompiler();
        StandardJavaFileManager files = javac.getStandardFileManager(null, null, null);
        JavacTask task = (JavacTask) javac.getTask(
            null, files, null, List.of("-proc:none"), null, files.getJavaFileObjects(source));
        unit = task.parse().iterator().next();
        task.analyze();
        trees = Trees.instance(task);
        elements = task.getElements();
        lines = unit.getLineMap();
        positions = trees.getSourcePositions();
        new Rules().scan(unit, null);
    }

    /** A call that is not by super. may reach all that overrides what it names. */
    private static void overrides() {
        Set<ExecutableElement> methods = new HashSet<>(calls.keySet());
        for (Map.Entry<ExecutableElement, Set<ExecutableElement>> entry : open.entrySet()) {
            for (ExecutableElement named : entry.getValue()) {
                for (ExecutableElement below : methods) {
                    TypeElement type = (TypeElement) below.getEnclosingElement();
                    if (named == below || elements.overrides(below, named, type)) {
                        calls.computeIfAbsent(entry.getKey(), k -> new HashSet<>()).add(below);
                    }
                }
            }
        }
    }

    /** Of the longest way on which no method comes twice. */
    private static int depth(ExecutableElement method, List<ExecutableElement> way) {
        if (way.contains(method)) return 0;
        way.add(method);
        int deepest = 0;
        for (ExecutableElement called : calls.getOrDefault(method, Set.of())) {
            deepest = Math.max(deepest, depth(called, way));
        }
        way.remove(way.size() - 1);
        return deepest + 1;
    }

    private static final class Rules extends TreePathScanner<Void, ExecutableElement> {
        private void none(String rule, String what) {
            expect.part(rule);
            expect.holds("no " + what, false);
        }

        @Override
        public Void visitImport(ImportTree tree, ExecutableElement in) {
            expect.part("rule 4");
            String name = tree.getQualifiedIdentifier().toString();
            expect.holds("import " + name, IMPORTS.contains(name) && !tree.isStatic());
            return null;
        }

        @Override
        public Void visitThrow(ThrowTree tree, ExecutableElement in) {
            none("rule 6", "throw");
            return super.visitThrow(tree, in);
        }

        @Override
        public Void visitTry(TryTree tree, ExecutableElement in) {
            none("rule 6", "try");
            return super.visitTry(tree, in);
        }

        @Override
        public Void visitSynchronized(SynchronizedTree tree, ExecutableElement in) {
            none("rule 6", "synchronized");
            return super.visitSynchronized(tree, in);
        }

        @Override
        public Void visitAssert(AssertTree tree, ExecutableElement in) {
            none("rule 6", "assert");
            return super.visitAssert(tree, in);
        }

        @Override
        public Void visitBinary(BinaryTree tree, ExecutableElement in) {
            boolean isText = isText(tree.getLeftOperand()) || isText(tree.getRightOperand());
            expect.part("rule 10");
            expect.holds("no text joined by +: " + tree, !isText || tree.getKind() != Tree.Kind.PLUS);
            expect.part("rule 6");
            boolean isSame = tree.getKind() == Tree.Kind.EQUAL_TO || tree.getKind() == Tree.Kind.NOT_EQUAL_TO;
            expect.holds("no texts by == or !=: " + tree, !isText || !isSame);
            return super.visitBinary(tree, in);
        }

        private boolean isText(Tree tree) {
            String type = String.valueOf(trees.getTypeMirror(new TreePath(getCurrentPath(), tree)));
            return type.startsWith("java.lang.String");
        }

        @Override
        public Void visitLambdaExpression(LambdaExpressionTree tree, ExecutableElement in) {
            none("rule 2", "lambda");
            return super.visitLambdaExpression(tree, in);
        }

        @Override
        public Void visitMemberReference(MemberReferenceTree tree, ExecutableElement in) {
            none("rule 2", "method reference");
            return super.visitMemberReference(tree, in);
        }

        @Override
        public Void visitClass(ClassTree tree, ExecutableElement in) {
            expect.part("rule 2");
            expect.holds("no local or anonymous class", in == null);
            classes.add((TypeElement) trees.getElement(getCurrentPath()));
            int fields = 0;
            for (var member : tree.getMembers()) {
                if (member instanceof BlockTree) none("rule 5", "initialiser block");
                if (member instanceof VariableTree v) {
                    Set<javax.lang.model.element.Modifier> flags = v.getModifiers().getFlags();
                    boolean isStatic = flags.contains(javax.lang.model.element.Modifier.STATIC);
                    expect.part("rule 5");
                    expect.holds("static and not final: " + v.getName(),
                        !isStatic || flags.contains(javax.lang.model.element.Modifier.FINAL));
                    if (!isStatic) fields++;
                }
            }
            expect.part("rule 11");
            expect.holds("at most 20 fields in " + tree.getSimpleName() + ": " + fields, fields <= 20);
            return super.visitClass(tree, in);
        }

        @Override
        public Void visitMethod(MethodTree tree, ExecutableElement in) {
            ExecutableElement method = (ExecutableElement) trees.getElement(getCurrentPath());
            calls.putIfAbsent(method, new HashSet<>());
            expect.part("rule 11");
            expect.holds("at most 7 parameters in " + method, tree.getParameters().size() <= 7);
            long from = lines.getLineNumber(Math.max(0, positions.getStartPosition(unit, tree)));
            long to = lines.getLineNumber(Math.max(0, positions.getEndPosition(unit, tree)));
            expect.holds("at most 60 lines in " + method + ": " + (to - from + 1), to - from + 1 <= 60);
            return super.visitMethod(tree, method);
        }

        @Override
        public Void visitMethodInvocation(MethodInvocationTree tree, ExecutableElement in) {
            Element called = trees.getElement(new TreePath(getCurrentPath(), tree.getMethodSelect()));
            boolean bySuper = tree.getMethodSelect() instanceof MemberSelectTree select
                && select.getExpression().toString().equals("super");
            note((ExecutableElement) called, in, bySuper);
            return super.visitMethodInvocation(tree, in);
        }

        @Override
        public Void visitNewClass(NewClassTree tree, ExecutableElement in) {
            note((ExecutableElement) trees.getElement(getCurrentPath()), in, false);
            return super.visitNewClass(tree, in);
        }

        private void note(ExecutableElement called, ExecutableElement in, boolean bySuper) {
            TypeElement owner = (TypeElement) called.getEnclosingElement();
            if (owner.getQualifiedName().toString().startsWith("PunchedSouls")) {
                if (in != null) (bySuper ? calls : open).computeIfAbsent(in, k -> new HashSet<>()).add(called);
                return;
            }
            expect.part("rule 4");
            String name = owner.getSimpleName() + "." + called.getSimpleName();
            expect.holds("library: " + name, LIBRARY.contains(name) && called.getKind() != ElementKind.OTHER);
        }
    }
}

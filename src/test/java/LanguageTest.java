import com.sun.source.tree.*;
import com.sun.source.util.JavacTask;
import com.sun.source.util.TreePath;
import com.sun.source.util.TreePathScanner;
import com.sun.source.util.Trees;
import java.nio.file.Files;
import java.nio.file.Path;
import java.util.ArrayList;
import java.util.HashMap;
import java.util.LinkedHashSet;
import java.util.List;
import java.util.Map;
import java.util.Set;
import javax.lang.model.element.Element;
import javax.lang.model.element.ElementKind;
import javax.lang.model.element.Modifier;
import javax.lang.model.element.TypeElement;
import javax.tools.JavaCompiler;
import javax.tools.StandardJavaFileManager;
import javax.tools.ToolProvider;

/** The rules of ../shared/LANGUAGE.md that can be seen in the source. Run from the project's folder. */
public final class LanguageTest {
    private static final Path SOURCE = Path.of("src/main/java/CatchBars.java");
    private static final String TOP = "CatchBars";
    private static final String FACE = "swing/3 bar/2 set/2 flyer/1 ofFlyer/2 become/2 as/2 turn/2 feed/2 text/1 law/4 "
        + "go/1 ticks/1 evenings/1 rest/0 then/3 can/3 surest/2 odds/3 pumped/2 inStep/2 mend/4 again/5 net/3 phases/3 "
        + "late/2 seed/1 voice/3 trace/1 sheet/3 put/3 move/5 turns/1 judge/1 image/0 restore/0 tell/1 check/0 count/1 "
        + "told/1";
    /** Where the rule says "some", a little more is let pass. */
    private static final int MOST_CLASSES = 15;
    private static final int MOST_FIELDS = 25;
    private static final int MOST_LINES = 70;
    private static final int MOST_DEEP = 8;
    private static final Map<String, Set<String>> LIBRARY = Map.of(
        "java.lang.String", Set.of("length", "charAt", "isEmpty", "equals", "indexOf", "substring", "toCharArray", "<init>"),
        "java.lang.StringBuilder", Set.of("<init>", "append", "charAt", "setCharAt", "setLength", "deleteCharAt",
            "reverse", "length", "toString"),
        "java.util.ArrayList", Set.of("<init>", "add", "get", "set", "remove", "size", "isEmpty", "clear"),
        "java.util.List", Set.of("add", "get", "set", "remove", "size", "isEmpty", "clear", "of"),
        "java.lang.System", Set.of("arraycopy"),
        "java.util.Arrays", Set.of("copyOf", "copyOfRange", "fill"),
        "java.lang.Object", Set.of("<init>", "clone"),
        "java.lang.Enum", Set.of("<init>", "ordinal"));
    private static final Set<String> NUMBERS = Set.of("java.lang.Math", "java.lang.Integer", "java.lang.Long");
    private static final Set<Tree.Kind> FORBIDDEN = Set.of(
        Tree.Kind.THROW, Tree.Kind.TRY, Tree.Kind.CATCH, Tree.Kind.SYNCHRONIZED, Tree.Kind.ASSERT,
        Tree.Kind.LAMBDA_EXPRESSION, Tree.Kind.MEMBER_REFERENCE);

    private static final Due due = new Due("LanguageTest");

    public static void main(String[] args) throws Exception {
        String text = Files.readString(SOURCE);
        due.due("signs beyond 127", text.chars().filter(c -> c > 127).count(), 0);
        JavaCompiler compiler = ToolProvider.getSystemJavaCompiler();
        try (StandardJavaFileManager files = compiler.getStandardFileManager(null, null, null)) {
            JavacTask task = (JavacTask) compiler.getTask(null, files, null, List.of("-proc:none"), null,
                files.getJavaFileObjects(SOURCE));
            CompilationUnitTree unit = task.parse().iterator().next();
            task.analyze();
            Scan scan = new Scan(unit, Trees.instance(task));
            scan.scan(new TreePath(unit), null);
            due.due("top classes", unit.getTypeDecls().size(), 1);
            due.due("package lines", unit.getPackageName() == null ? 0 : 1, 0);
            due.due("some 12 classes: " + scan.classes, scan.classes <= MOST_CLASSES ? 1 : 0, 1);
            due.due("the face: " + scan.face, new LinkedHashSet<>(scan.face).equals(Set.of(FACE.split(" "))) ? 1 : 0, 1);
            due.due("no name of the face twice", scan.face.size(), FACE.split(" ").length);
            due.due("no private method has a name of the face: " + scan.privates, common(scan.face, scan.privates), 0);
            int deepest = 0;
            for (String method : scan.calls.keySet()) {
                deepest = Math.max(deepest, depth(method, scan.calls, new ArrayList<>()));
            }
            System.out.println("LanguageTest: calls go " + deepest + " deep");
            due.due("calls at most 8 deep: " + deepest, deepest <= MOST_DEEP ? 1 : 0, 1);
        }
        due.end();
    }

    private static int common(List<String> face, Set<String> others) {
        int many = 0;
        for (String name : face) {
            many += others.contains(name.substring(0, name.indexOf('/'))) ? 1 : 0;
        }
        return many;
    }

    /** The longest way of the program's own calls that does not come back to one that is open. */
    private static int depth(String method, Map<String, Set<String>> calls, List<String> open) {
        if (open.contains(method)) {
            return 0;
        }
        open.add(method);
        int deepest = 0;
        for (String called : calls.getOrDefault(method, Set.of())) {
            deepest = Math.max(deepest, depth(called, calls, open));
        }
        open.remove(method);
        return deepest + 1;
    }

    private static final class Scan extends TreePathScanner<Void, Void> {
        private final CompilationUnitTree unit;
        private final Trees trees;
        private final List<String> face = new ArrayList<>();
        private final Set<String> privates = new LinkedHashSet<>();
        private final Map<String, Set<String>> calls = new HashMap<>();
        private int classes;
        private String method = "";

        Scan(CompilationUnitTree unit, Trees trees) {
            this.unit = unit;
            this.trees = trees;
        }

        private long line(Tree tree) {
            return unit.getLineMap().getLineNumber(trees.getSourcePositions().getStartPosition(unit, tree));
        }

        private void must(boolean holds, String rule, Tree tree) {
            due.due("line " + line(tree) + ": " + rule, holds ? 1 : 0, 1);
        }

        @Override public Void scan(Tree tree, Void v) {
            if (tree != null) {
                must(!FORBIDDEN.contains(tree.getKind()), "no " + tree.getKind(), tree);
            }
            return super.scan(tree, v);
        }

        @Override public Void visitClass(ClassTree c, Void v) {
            classes++;
            Set<Modifier> flags = trees.getElement(getCurrentPath()).getModifiers();
            boolean top = c.getSimpleName().contentEquals(TOP);
            if (top) {
                must(flags.equals(Set.of(Modifier.PUBLIC, Modifier.FINAL)), "the class is public and final", c);
            } else {
                must(flags.contains(Modifier.STATIC), "a class inside is static", c);
                must(!flags.contains(Modifier.PUBLIC) && !flags.contains(Modifier.PROTECTED), "and not public", c);
                must(c.getSimpleName().length() > 0, "and has a name", c);
            }
            int fields = 0;
            for (Tree member : c.getMembers()) {
                must(!(member instanceof BlockTree), "no initialiser block", member);
                if (member instanceof VariableTree) {
                    Set<Modifier> of = ((VariableTree) member).getModifiers().getFlags();
                    boolean isStatic = of.contains(Modifier.STATIC) || c.getKind() == Tree.Kind.ENUM && isConstant(member);
                    must(!top || of.contains(Modifier.PRIVATE), "fields of the class are private", member);
                    must(!of.contains(Modifier.STATIC) || of.contains(Modifier.FINAL), "static is final", member);
                    fields += isStatic ? 0 : 1;
                }
                if (member instanceof MethodTree && top) {
                    faceOrPrivate((MethodTree) member);
                }
            }
            must(fields <= MOST_FIELDS, "some 20 fields, here " + fields, c);
            return super.visitClass(c, v);
        }

        private boolean isConstant(Tree member) {
            Element e = trees.getElement(new TreePath(getCurrentPath(), member));
            return e != null && e.getKind() == ElementKind.ENUM_CONSTANT;
        }

        private void faceOrPrivate(MethodTree m) {
            Set<Modifier> flags = m.getModifiers().getFlags();
            if (m.getReturnType() == null) {
                must(flags.equals(Set.of(Modifier.PUBLIC)) && m.getParameters().isEmpty(), "the constructor", m);
            } else if (flags.contains(Modifier.PUBLIC)) {
                face.add(m.getName() + "/" + m.getParameters().size());
            } else {
                must(flags.contains(Modifier.PRIVATE), "what is not the face is private", m);
                privates.add(m.getName().toString());
            }
        }

        @Override public Void visitMethod(MethodTree m, Void v) {
            must(m.getParameters().size() <= 7, "at most 7 parameters", m);
            long end = trees.getSourcePositions().getEndPosition(unit, m);
            if (end >= 0) {
                must(unit.getLineMap().getLineNumber(end) - line(m) < MOST_LINES, "some 60 lines", m);
            }
            String outer = method;
            method = nameOf(trees.getElement(getCurrentPath()));
            super.visitMethod(m, v);
            method = outer;
            return null;
        }

        private static String nameOf(Element e) {
            return e.getEnclosingElement() + "." + e;
        }

        @Override public Void visitMethodInvocation(MethodInvocationTree call, Void v) {
            called(call);
            return super.visitMethodInvocation(call, v);
        }

        @Override public Void visitNewClass(NewClassTree n, Void v) {
            must(n.getClassBody() == null, "no anonymous class", n);
            called(n);
            return super.visitNewClass(n, v);
        }

        private void called(Tree call) {
            Element e = trees.getElement(getCurrentPath());
            must(e != null, "a call is known", call);
            if (e == null) {
                return;
            }
            Element of = e.getEnclosingElement();
            String owner = of instanceof TypeElement ? ((TypeElement) of).getQualifiedName().toString() : "";
            String name = e.getSimpleName().toString();
            if (owner.equals(TOP) || owner.startsWith(TOP + ".")) {
                calls.computeIfAbsent(method, m -> new LinkedHashSet<>()).add(nameOf(e));
            } else {
                boolean known = LIBRARY.getOrDefault(owner, Set.of()).contains(name)
                    || NUMBERS.contains(owner) && !name.endsWith("Exact") && !name.equals("<init>")
                    && (!owner.equals("java.lang.Math") || onInts(e)) || owner.isEmpty() && name.equals("clone");
                must(known, "a call of the library: " + owner + "." + name, call);
            }
        }

        @Override public Void visitForLoop(ForLoopTree f, Void v) {
            must(f.getCondition() != null, "a loop has an end that its own lines show", f);
            return super.visitForLoop(f, v);
        }

        @Override public Void visitWhileLoop(WhileLoopTree w, Void v) {
            must(!w.getCondition().toString().equals("(true)"), "a loop has an end that its own lines show", w);
            return super.visitWhileLoop(w, v);
        }

        private static boolean onInts(Element e) {
            return !e.toString().contains("double") && !e.toString().contains("float");
        }
    }
}

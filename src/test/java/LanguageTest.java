import com.sun.source.tree.*;
import com.sun.source.util.JavacTask;
import com.sun.source.util.TreePath;
import com.sun.source.util.TreePathScanner;
import com.sun.source.util.Trees;
import java.nio.file.Files;
import java.nio.file.Path;
import java.util.ArrayList;
import java.util.HashMap;
import java.util.LinkedHashSet;
import java.util.List;
import java.util.Map;
import java.util.Set;
import javax.lang.model.element.Element;
import javax.lang.model.element.Modifier;
import javax.tools.JavaCompiler;
import javax.tools.StandardJavaFileManager;
import javax.tools.ToolProvider;

/** The rules of ../shared/LANGUAGE.md that can be seen in the source. Run from the project's folder. */
public final class LanguageTest {
    private static final Path SOURCE = Path.of("src/main/java/CatchBars.java");
    private static final String FACE = "swing/3 bar/2 set/2 flyer/1 ofFlyer/2 become/2 as/2 turn/2 feed/2 text/1 law/4 "
        + "go/1 ticks/1 evenings/1 rest/0 then/3 can/3 surest/2 odds/3 pumped/2 inStep/2 mend/4 again/5 net/3 phases/3 "
        + "late/2 seed/1 voice/3 trace/1 sheet/3 put/3 move/5 turns/1 judge/1 image/0 restore/0 tell/1 check/0 count/1 "
        + "told/1";
    private static final Set<String> LIBRARY = Set.of(
        "Math.abs", "Math.min", "Math.max", "Math.floorMod", "System.arraycopy", "Object.Object");
    private static final Set<Tree.Kind> FORBIDDEN = Set.of(
        Tree.Kind.THROW, Tree.Kind.TRY, Tree.Kind.CATCH, Tree.Kind.SYNCHRONIZED, Tree.Kind.ASSERT,
        Tree.Kind.LAMBDA_EXPRESSION, Tree.Kind.MEMBER_REFERENCE, Tree.Kind.STRING_LITERAL, Tree.Kind.WHILE_LOOP,
        Tree.Kind.DO_WHILE_LOOP, Tree.Kind.IMPORT, Tree.Kind.ANNOTATION, Tree.Kind.INSTANCE_OF,
        Tree.Kind.DOUBLE_LITERAL, Tree.Kind.FLOAT_LITERAL);

    private static final Due due = new Due("LanguageTest");

    public static void main(String[] args) throws Exception {
        String text = Files.readString(SOURCE);
        due.due("signs beyond 127", text.chars().filter(c -> c > 127).count(), 0);
        JavaCompiler compiler = ToolProvider.getSystemJavaCompiler();
        try (StandardJavaFileManager files = compiler.getStandardFileManager(null, null, null)) {
            JavacTask task = (JavacTask) compiler.getTask(null, files, null, List.of("-proc:none"), null,
                files.getJavaFileObjects(SOURCE));
            CompilationUnitTree unit = task.parse().iterator().next();
            task.analyze();
            Scan scan = new Scan(unit, Trees.instance(task));
            scan.scan(new TreePath(unit), null);
            due.due("top classes", unit.getTypeDecls().size(), 1);
            due.due("package lines", unit.getPackageName() == null ? 0 : 1, 0);
            due.due("at most 12 classes: " + scan.classes, scan.classes <= 12 ? 1 : 0, 1);
            due.due("the face", String.join(" ", scan.face).equals(FACE) ? 1 : 0, 1);
            due.due("no face's name twice: " + scan.otherNames, common(scan.face, scan.otherNames), 0);
            int deepest = 0;
            for (String method : scan.calls.keySet()) {
                deepest = Math.max(deepest, depth(method, scan.calls, new ArrayList<>()));
            }
            System.out.println("LanguageTest: calls go " + deepest + " deep");
            due.due("calls at most 8 deep: " + deepest, deepest <= 8 ? 1 : 0, 1);
        }
        due.end();
    }

    private static int common(List<String> face, Set<String> others) {
        int many = 0;
        for (String name : face) {
            many += others.contains(name.substring(0, name.indexOf('/'))) ? 1 : 0;
        }
        return many;
    }

    /** The longest way of calls that does not come back to one that is open. */
    private static int depth(String method, Map<String, Set<String>> calls, List<String> open) {
        if (open.contains(method)) {
            return 0;
        }
        open.add(method);
        int deepest = 0;
        for (String called : calls.getOrDefault(method, Set.of())) {
            deepest = Math.max(deepest, depth(called, calls, open));
        }
        open.remove(method);
        return deepest + 1;
    }

    private static final class Scan extends TreePathScanner<Void, Void> {
        private final CompilationUnitTree unit;
        private final Trees trees;
        private final List<String> face = new ArrayList<>();
        private final Set<String> otherNames = new LinkedHashSet<>();
        private final Map<String, Set<String>> calls = new HashMap<>();
        private int classes;
        private boolean inMethod;
        private String method = "";

        Scan(CompilationUnitTree unit, Trees trees) {
            this.unit = unit;
            this.trees = trees;
        }

        private long line(Tree tree) {
            return unit.getLineMap().getLineNumber(trees.getSourcePositions().getStartPosition(unit, tree));
        }

        private void must(boolean holds, String rule, Tree tree) {
            due.due("line " + line(tree) + ": " + rule, holds ? 1 : 0, 1);
        }

        @Override public Void scan(Tree tree, Void v) {
            if (tree != null) {
                must(!FORBIDDEN.contains(tree.getKind()), "no " + tree.getKind(), tree);
            }
            return super.scan(tree, v);
        }

        @Override public Void visitClass(ClassTree c, Void v) {
            classes++;
            Set<Modifier> flags = c.getModifiers().getFlags();
            boolean top = c.getSimpleName().contentEquals("CatchBars");
            must(flags.equals(top ? Set.of(Modifier.PUBLIC, Modifier.FINAL)
                : Set.of(Modifier.PRIVATE, Modifier.STATIC, Modifier.FINAL)), "modifiers of a class", c);
            int fields = 0;
            for (Tree member : c.getMembers()) {
                must(!(member instanceof BlockTree), "no initialiser block", member);
                if (member instanceof VariableTree) {
                    Set<Modifier> of = ((VariableTree) member).getModifiers().getFlags();
                    must(of.contains(Modifier.PRIVATE), "fields are private", member);
                    must(!of.contains(Modifier.STATIC) || of.contains(Modifier.FINAL), "static is final", member);
                    fields += of.contains(Modifier.STATIC) ? 0 : 1;
                }
                if (member instanceof MethodTree && top) {
                    faceOrPrivate((MethodTree) member);
                } else if (member instanceof MethodTree) {
                    otherNames.add(((MethodTree) member).getName().toString());
                }
            }
            must(fields <= 20, "at most 20 fields, here " + fields, c);
            return super.visitClass(c, v);
        }

        private void faceOrPrivate(MethodTree m) {
            Set<Modifier> flags = m.getModifiers().getFlags();
            if (m.getReturnType() == null) {
                must(flags.equals(Set.of(Modifier.PUBLIC)) && m.getParameters().isEmpty(), "the constructor", m);
            } else if (flags.contains(Modifier.PUBLIC)) {
                face.add(m.getName() + "/" + m.getParameters().size());
            } else {
                must(flags.contains(Modifier.PRIVATE), "what is not the face is private", m);
                otherNames.add(m.getName().toString());
            }
        }

        @Override public Void visitMethod(MethodTree m, Void v) {
            must(m.getParameters().size() <= 7, "at most 7 parameters", m);
            long end = trees.getSourcePositions().getEndPosition(unit, m);
            if (end >= 0) {
                must(unit.getLineMap().getLineNumber(end) - line(m) < 60, "at most 60 lines", m);
            }
            inMethod = m.getReturnType() != null;
            method = nameOf(trees.getElement(getCurrentPath()));
            super.visitMethod(m, v);
            inMethod = false;
            return null;
        }

        private String nameOf(Element e) {
            String name = e.getSimpleName().toString();
            String of = e.getEnclosingElement().getSimpleName().toString();
            return of + "." + (name.equals("<init>") ? of : name);
        }

        @Override public Void visitMethodInvocation(MethodInvocationTree call, Void v) {
            String called = nameOf(trees.getElement(getCurrentPath()));
            calls.computeIfAbsent(method, m -> new LinkedHashSet<>()).add(called);
            String of = called.substring(0, called.indexOf('.'));
            boolean own = Set.of("CatchBars", "Swing", "Flyer", "Law", "Reader", "World", "Thinker", "Voices", "Sheet")
                .contains(of);
            must(own || LIBRARY.contains(called), "a call of the library: " + called, call);
            return super.visitMethodInvocation(call, v);
        }

        @Override public Void visitNewClass(NewClassTree n, Void v) {
            must(!inMethod, "objects are made in constructors, since all stay until the end of a run", n);
            return super.visitNewClass(n, v);
        }

        @Override public Void visitNewArray(NewArrayTree n, Void v) {
            must(!inMethod, "rows are made in constructors, since all stay until the end of a run", n);
            return super.visitNewArray(n, v);
        }

        @Override public Void visitForLoop(ForLoopTree f, Void v) {
            must(f.getCondition() != null && f.getUpdate().size() == 1, "a loop counts against a bound", f);
            return super.visitForLoop(f, v);
        }
    }
}

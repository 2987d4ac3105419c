import com.sun.source.tree.AnnotationTree;
import com.sun.source.tree.AssertTree;
import com.sun.source.tree.ClassTree;
import com.sun.source.tree.CompilationUnitTree;
import com.sun.source.tree.IdentifierTree;
import com.sun.source.tree.ImportTree;
import com.sun.source.tree.LambdaExpressionTree;
import com.sun.source.tree.MemberReferenceTree;
import com.sun.source.tree.MethodTree;
import com.sun.source.tree.SynchronizedTree;
import com.sun.source.tree.ThrowTree;
import com.sun.source.tree.Tree;
import com.sun.source.tree.TryTree;
import com.sun.source.tree.WhileLoopTree;
import com.sun.source.util.JavacTask;
import com.sun.source.util.SourcePositions;
import com.sun.source.util.TreeScanner;
import com.sun.source.util.Trees;
import java.io.File;
import java.io.IOException;
import java.lang.reflect.Constructor;
import java.lang.reflect.Field;
import java.lang.reflect.Method;
import java.lang.reflect.Modifier;
import java.util.ArrayList;
import java.util.List;
import java.util.Set;
import java.util.TreeSet;
import javax.tools.JavaCompiler;
import javax.tools.StandardJavaFileManager;
import javax.tools.ToolProvider;

/** The program keeps to the document's face and, as far as a test can tell, to the rules of LANGUAGE.md. */
public final class LanguageTest {
    private static final File SOURCE = new File("src/main/java/CoatTraces.java");
    private static final Check CHECK = new Check();
    private static final Set<String> FACE = new TreeSet<>(List.of(
        "told(1)", "person(2)", "quarter(3)", "kin(3)", "would(2)", "dated(2)", "signAt(1)", "put(4)", "born(3)", "died(3)",
        "rule(1)", "sign(1)", "wipe(0)", "drift(1)", "undo(1)", "write(3)", "tear(0)", "seed(1)", "keep(1)", "goBack(1)"));

    public static void main(String[] args) throws IOException {
        face();
        innerClasses();
        source();
        calls();
        CHECK.end();
    }

    private static void face() {
        Class<?> c = CoatTraces.class;
        CHECK.holds("public and final", Modifier.isPublic(c.getModifiers()) && Modifier.isFinal(c.getModifiers()));
        Set<String> seen = new TreeSet<>();
        for (Method m : c.getDeclaredMethods()) {
            if (!Modifier.isPrivate(m.getModifiers())) {
                seen.add(m.getName() + "(" + m.getParameterCount() + ")");
                CHECK.holds(m + " is public, not static, answers int", Modifier.isPublic(m.getModifiers())
                    && !Modifier.isStatic(m.getModifiers()) && m.getReturnType() == int.class);
                for (Class<?> p : m.getParameterTypes()) {
                    CHECK.holds(m + " takes int", p == int.class);
                }
            }
        }
        CHECK.holds("the methods are those of the document: " + seen, seen.equals(FACE));
        Constructor<?>[] made = c.getDeclaredConstructors();
        CHECK.holds("one public constructor", made.length == 1 && Modifier.isPublic(made[0].getModifiers()) && made[0].getParameterCount() == 0);
        Set<String> constants = new TreeSet<>();
        for (Field f : c.getDeclaredFields()) {
            if (!Modifier.isPrivate(f.getModifiers())) {
                constants.add(f.getName());
                CHECK.holds(f + " is a public constant", Modifier.isPublic(f.getModifiers()) && Modifier.isStatic(f.getModifiers())
                    && Modifier.isFinal(f.getModifiers()) && f.getType() == int.class);
            }
        }
        CHECK.holds("the constants: " + constants, constants.equals(new TreeSet<>(List.of("NONE", "UNKNOWN", "OUTSIDE", "NOT", "FULL"))));
    }

    private static void innerClasses() {
        List<Class<?>> all = new ArrayList<>(List.of(CoatTraces.class.getDeclaredClasses()));
        CHECK.holds("some twelve classes", all.size() + 1 <= 12);
        for (Class<?> c : all) {
            int is = c.getModifiers();
            CHECK.holds(c + " is static, not public", Modifier.isStatic(is) && !Modifier.isPublic(is) && !Modifier.isProtected(is));
        }
        all.add(CoatTraces.class);
        for (Class<?> c : all) {
            int fields = 0;
            for (Field f : c.getDeclaredFields()) {
                boolean fixed = Modifier.isStatic(f.getModifiers());
                fields += fixed ? 0 : 1;
                CHECK.holds(f + ": static fields are final numbers", !fixed || Modifier.isFinal(f.getModifiers()) && f.getType() == int.class);
            }
            CHECK.holds(c + " has some twenty fields at most", fields <= 20);
            for (Method m : c.getDeclaredMethods()) {
                CHECK.holds(m + " bears no public name", Modifier.isPublic(m.getModifiers()) || !bearsPublicName(m.getName()));
                CHECK.holds(m + " is no synthetic one", !m.isSynthetic());
            }
        }
    }

    private static boolean bearsPublicName(String name) {
        for (String f : FACE) {
            if (f.startsWith(name + "(")) {
                return true;
            }
        }
        return false;
    }

    private static void source() throws IOException {
        JavaCompiler compiler = ToolProvider.getSystemJavaCompiler();
        try (StandardJavaFileManager files = compiler.getStandardFileManager(null, null, null)) {
            JavacTask task = (JavacTask) compiler.getTask(null, files, null, null, null, files.getJavaFileObjects(SOURCE));
            Trees trees = Trees.instance(task);
            for (CompilationUnitTree unit : task.parse()) {
                CHECK.holds("no package", unit.getPackageName() == null);
                CHECK.due("one top class", unit.getTypeDecls().size(), 1);
                new Reader(unit, trees.getSourcePositions()).scan(unit, null);
            }
        }
    }

    private static void calls() throws IOException {
        JavaCompiler compiler = ToolProvider.getSystemJavaCompiler();
        try (StandardJavaFileManager files = compiler.getStandardFileManager(null, null, null)) {
            CallGraph graph = new CallGraph((JavacTask) compiler.getTask(null, files, null, List.of("-proc:none"), null, files.getJavaFileObjects(SOURCE)));
            Set<String> listed = Set.of("java.lang.Object.<init>", "java.lang.Math.max", "java.lang.Math.min", "java.lang.System.arraycopy");
            for (String called : graph.library()) {
                CHECK.holds("no call of the library but what is listed: " + called, listed.contains(called));
            }
            CHECK.holds("the calls are seen", graph.methods().size() > 100);
            for (String method : graph.methods()) {
                CHECK.holds(method + " goes eight deep at most, without recursion: " + graph.deepest(method), graph.deepest(method) <= 8);
            }
        }
    }

    /** Marks each thing that the rules leave out. */
    private static final class Reader extends TreeScanner<Void, Void> {
        private static final Set<String> LIBRARY = Set.of("Math", "System");
        private final CompilationUnitTree unit;
        private final SourcePositions places;
        private final Set<String> own = new TreeSet<>();

        Reader(CompilationUnitTree unit, SourcePositions places) {
            this.unit = unit;
            this.places = places;
        }

        private long line(long place) {
            return unit.getLineMap().getLineNumber(place);
        }

        private Void leftOut(String what, Tree tree) {
            CHECK.holds("line " + line(places.getStartPosition(unit, tree)) + ": no " + what, false);
            return null;
        }

        @Override
        public Void visitClass(ClassTree tree, Void v) {
            own.add(tree.getSimpleName().toString());
            for (Tree member : tree.getMembers()) {
                if (member instanceof ClassTree) {
                    own.add(((ClassTree) member).getSimpleName().toString());
                }
            }
            return super.visitClass(tree, v);
        }

        @Override
        public Void visitMethod(MethodTree tree, Void v) {
            long lines = line(places.getEndPosition(unit, tree)) - line(places.getStartPosition(unit, tree)) + 1;
            CHECK.holds(tree.getName() + " is short: " + lines, lines <= 60);
            CHECK.holds(tree.getName() + " has seven parameters at most", tree.getParameters().size() <= 7);
            return super.visitMethod(tree, v);
        }

        @Override
        public Void visitIdentifier(IdentifierTree tree, Void v) {
            String name = tree.getName().toString();
            boolean isClass = name.length() > 1 && Character.isUpperCase(name.charAt(0)) && Character.isLowerCase(name.charAt(1));
            CHECK.holds("no library but what is listed: " + name, !isClass || own.contains(name) || LIBRARY.contains(name));
            return super.visitIdentifier(tree, v);
        }

        @Override
        public Void visitImport(ImportTree tree, Void v) {
            return leftOut("import", tree);
        }

        @Override
        public Void visitThrow(ThrowTree tree, Void v) {
            return leftOut("throw", tree);
        }

        @Override
        public Void visitTry(TryTree tree, Void v) {
            return leftOut("try", tree);
        }

        @Override
        public Void visitSynchronized(SynchronizedTree tree, Void v) {
            return leftOut("synchronized", tree);
        }

        @Override
        public Void visitAssert(AssertTree tree, Void v) {
            return leftOut("assert", tree);
        }

        @Override
        public Void visitLambdaExpression(LambdaExpressionTree tree, Void v) {
            return leftOut("lambda", tree);
        }

        @Override
        public Void visitMemberReference(MemberReferenceTree tree, Void v) {
            return leftOut("method reference", tree);
        }

        @Override
        public Void visitAnnotation(AnnotationTree tree, Void v) {
            return leftOut("annotation", tree);
        }

        @Override
        public Void visitWhileLoop(WhileLoopTree tree, Void v) {
            return leftOut("while: counted loops show their end", tree);
        }
    }
}

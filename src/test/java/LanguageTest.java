import com.sun.source.tree.AssertTree;
import com.sun.source.tree.BinaryTree;
import com.sun.source.tree.ClassTree;
import com.sun.source.tree.CompilationUnitTree;
import com.sun.source.tree.LambdaExpressionTree;
import com.sun.source.tree.MemberReferenceTree;
import com.sun.source.tree.MethodInvocationTree;
import com.sun.source.tree.MethodTree;
import com.sun.source.tree.NewArrayTree;
import com.sun.source.tree.NewClassTree;
import com.sun.source.tree.SynchronizedTree;
import com.sun.source.tree.ThrowTree;
import com.sun.source.tree.TryTree;
import com.sun.source.tree.Tree;
import com.sun.source.tree.VariableTree;
import com.sun.source.util.JavacTask;
import com.sun.source.util.TreePathScanner;
import com.sun.source.util.Trees;
import java.io.File;
import java.lang.reflect.Constructor;
import java.lang.reflect.Field;
import java.lang.reflect.Method;
import java.lang.reflect.Modifier;
import java.util.HashMap;
import java.util.HashSet;
import java.util.List;
import java.util.Map;
import java.util.Set;
import java.util.TreeSet;
import javax.lang.model.element.Element;
import javax.lang.model.element.ElementKind;
import javax.lang.model.type.TypeKind;
import javax.tools.JavaCompiler;
import javax.tools.StandardJavaFileManager;
import javax.tools.ToolProvider;

/** The face of the document, and those rules of LANGUAGE.md that a reader of the source can count. */
public final class LanguageTest {
    private static final String SOURCE = "src/main/java/NineLamps.java";
    private static final String[] FACE = {
        "add(int,int,int,int)", "ask()", "bears()", "behind(int,int,int)", "burn()", "copy(int,int,int,int,int)",
        "count(int)", "counts(int,int)", "dark(int,int,int)", "darkest(int)", "delay(int,int,int)",
        "delays(int,int,int,int)", "drop(int)", "due(int,int,int)", "film(int,int,int)", "fits(int)",
        "heard(int,int)", "holds(int)", "image()", "item(int,int,int,long)", "laws()", "least(int,int)",
        "log(int,int,int)", "lots(int)", "minute()", "night(int)", "out()", "restore()", "rock(int,int)", "rocks()",
        "rule(int,int)", "seed(int)", "seen(int,int,int)", "sheet(int,int,int)", "ship(int,int)", "spare()",
        "sure()", "told(int,int)", "turn(int,int)", "type(int)", "when(int)", "worst(int)",
    };
    private static final Set<String> LIBRARY = Set.of("java.lang.Object.<init>", "java.lang.String.indexOf",
            "java.lang.Integer.bitCount", "java.lang.Math.min", "java.lang.Math.max", "java.lang.System.arraycopy",
            "java.util.Arrays.fill");
    private static final int DEEPEST = 8, LONGEST = 60, MOST_PARAMETERS = 7, MOST_CLASSES = 12, MOST_FIELDS = 20;
    private static final Check c = new Check();

    public static void main(String[] args) throws Exception {
        face();
        nested();
        Reader reader = read();
        reader.depths();
        c.holds("rule 11: classes", reader.classes <= MOST_CLASSES);
        c.end();
    }

    private static void face() throws Exception {
        c.holds("rule 1: public and final", NineLamps.class.getModifiers() == (Modifier.PUBLIC | Modifier.FINAL));
        Set<String> due = new TreeSet<>(List.of(FACE));
        Set<String> got = new TreeSet<>();
        Set<String> names = new HashSet<>();
        for (Method m : NineLamps.class.getDeclaredMethods()) {
            if (!Modifier.isPrivate(m.getModifiers()) && !m.isSynthetic()) {
                StringBuilder s = new StringBuilder();
                for (Class<?> p : m.getParameterTypes()) {
                    s.append(s.length() == 0 ? "" : ",").append(p.getName());
                }
                got.add(m.getName() + "(" + s + ")");
                names.add(m.getName());
                c.holds("rule 1: " + m, m.getModifiers() == Modifier.PUBLIC && m.getReturnType() == int.class);
            }
        }
        c.holds("rule 1: the methods are " + got, got.equals(due));
        for (Method m : NineLamps.class.getDeclaredMethods()) {
            c.holds("rule 1: " + m, !Modifier.isPrivate(m.getModifiers()) || !names.contains(m.getName()));
        }
        Constructor<?>[] constructors = NineLamps.class.getDeclaredConstructors();
        c.due("rule 1: constructors", constructors.length, 1);
        c.due("rule 1: its parameters", constructors[0].getParameterCount(), 0);
        constants();
    }

    private static void constants() throws Exception {
        Map<String, Integer> due = Map.of("BAD", -1, "NOT", -2, "FULL", -3, "NONE", -4, "NULL", -11, "CAST", -12,
                "INDEX", -13, "SIZE", -14);
        int seen = 0;
        for (Field f : NineLamps.class.getDeclaredFields()) {
            if (!Modifier.isPrivate(f.getModifiers())) {
                seen++;
                c.holds("rule 1: " + f, Modifier.isPublic(f.getModifiers()) && due.containsKey(f.getName()));
                c.due("constant " + f.getName(), f.getInt(null), due.getOrDefault(f.getName(), 0));
            }
            c.holds("rule 5: " + f, !Modifier.isStatic(f.getModifiers()) || Modifier.isFinal(f.getModifiers()));
        }
        c.due("rule 1: constants", seen, 8);
    }

    private static void nested() {
        Set<String> names = new HashSet<>();
        for (Method m : NineLamps.class.getMethods()) {
            if (m.getDeclaringClass() == NineLamps.class) {
                names.add(m.getName());
            }
        }
        for (Class<?> k : NineLamps.class.getDeclaredClasses()) {
            c.holds("rule 1: " + k + " is static", Modifier.isStatic(k.getModifiers()));
            c.holds("rule 1: " + k + " is not public", !Modifier.isPublic(k.getModifiers()));
            for (Method m : k.getDeclaredMethods()) {
                c.holds("rule 1: " + m, !names.contains(m.getName()));
            }
            for (Field f : k.getDeclaredFields()) {
                c.holds("rule 5: " + f, !Modifier.isStatic(f.getModifiers()) || Modifier.isFinal(f.getModifiers()));
            }
        }
    }

    private static Reader read() throws Exception {
        JavaCompiler compiler = ToolProvider.getSystemJavaCompiler();
        try (StandardJavaFileManager files = compiler.getStandardFileManager(null, null, null)) {
            JavacTask task = (JavacTask) compiler.getTask(null, files, null, List.of("-proc:none"), null,
                    files.getJavaFileObjects(new File(SOURCE)));
            Iterable<? extends CompilationUnitTree> units = task.parse();
            task.analyze();
            Reader reader = new Reader(Trees.instance(task));
            for (CompilationUnitTree unit : units) {
                reader.unit = unit;
                c.holds("no package line", unit.getPackageName() == null);
                c.due("rule 1: classes at the top", unit.getTypeDecls().size(), 1);
                reader.scan(unit, null);
            }
            return reader;
        }
    }

    /** Looks at every tree of the source, and gathers who calls whom. */
    private static final class Reader extends TreePathScanner<Void, Void> {
        final Map<Element, Set<Element>> calls = new HashMap<>();
        final Trees trees;
        CompilationUnitTree unit;
        int classes = 0;
        private Element method;

        Reader(Trees trees) {
            this.trees = trees;
        }

        private long line(long position) {
            return unit.getLineMap().getLineNumber(position);
        }

        private void refuse(int rule, Tree t) {
            c.holds("rule " + rule + ", line " + line(trees.getSourcePositions().getStartPosition(unit, t)), false);
        }

        @Override
        public Void visitClass(ClassTree t, Void v) {
            classes++;
            int fields = 0;
            for (Tree member : t.getMembers()) {
                if (member instanceof VariableTree f && !f.getModifiers().getFlags().contains(javax.lang.model.element.Modifier.STATIC)) {
                    fields++;
                }
                if (member.getKind() == Tree.Kind.BLOCK) {
                    refuse(5, member);
                }
            }
            c.holds("rule 11: fields of " + t.getSimpleName(), fields <= MOST_FIELDS);
            return super.visitClass(t, v);
        }

        @Override
        public Void visitMethod(MethodTree t, Void v) {
            long first = line(trees.getSourcePositions().getStartPosition(unit, t));
            long last = line(Math.max(0, trees.getSourcePositions().getEndPosition(unit, t)));
            c.holds("rule 11: lines of " + t.getName(), last - first < LONGEST);
            c.holds("rule 11: parameters of " + t.getName(), t.getParameters().size() <= MOST_PARAMETERS);
            method = trees.getElement(getCurrentPath());
            calls.computeIfAbsent(method, k -> new HashSet<>());
            super.visitMethod(t, v);
            method = null;
            return null;
        }

        private void called() {
            Element e = trees.getElement(getCurrentPath());
            if (method != null && e != null) {
                calls.get(method).add(e);
            }
        }

        @Override
        public Void visitMethodInvocation(MethodInvocationTree t, Void v) {
            called();
            return super.visitMethodInvocation(t, v);
        }

        @Override
        public Void visitNewClass(NewClassTree t, Void v) {
            if (t.getClassBody() != null) {
                refuse(2, t);
            }
            madeIn(t);
            called();
            return super.visitNewClass(t, v);
        }

        @Override
        public Void visitNewArray(NewArrayTree t, Void v) {
            madeIn(t);
            return super.visitNewArray(t, v);
        }

        /** The room: objects are made by constructors and fields alone. */
        private void madeIn(Tree t) {
            Tree parent = getCurrentPath().getParentPath().getLeaf();
            boolean field = parent instanceof VariableTree && getCurrentPath().getParentPath().getParentPath().getLeaf() instanceof ClassTree;
            if (!field && (method == null || method.getKind() != ElementKind.CONSTRUCTOR)) {
                refuse(12, t);
            }
        }

        @Override
        public Void visitBinary(BinaryTree t, Void v) {
            if (trees.getTypeMirror(getCurrentPath()).getKind() == TypeKind.DECLARED) {
                refuse(10, t);
            }
            return super.visitBinary(t, v);
        }

        @Override
        public Void visitThrow(ThrowTree t, Void v) {
            refuse(6, t);
            return null;
        }

        @Override
        public Void visitTry(TryTree t, Void v) {
            refuse(6, t);
            return null;
        }

        @Override
        public Void visitAssert(AssertTree t, Void v) {
            refuse(6, t);
            return null;
        }

        @Override
        public Void visitSynchronized(SynchronizedTree t, Void v) {
            refuse(6, t);
            return null;
        }

        @Override
        public Void visitLambdaExpression(LambdaExpressionTree t, Void v) {
            refuse(2, t);
            return null;
        }

        @Override
        public Void visitMemberReference(MemberReferenceTree t, Void v) {
            refuse(2, t);
            return null;
        }

        void depths() {
            Map<Element, Integer> known = new HashMap<>();
            for (Element e : calls.keySet()) {
                int deep = depth(e, known);
                c.holds("rules 8, 11: " + chain(e, known) + " is " + deep + " deep", deep <= DEEPEST);
            }
            c.holds("some calls were seen", known.size() > 43);
        }

        private String chain(Element e, Map<Element, Integer> known) {
            StringBuilder s = new StringBuilder(e.getSimpleName());
            Element at = e;
            for (int i = 0; i <= DEEPEST && at != null; i++) {
                Element deepest = null;
                for (Element next : calls.getOrDefault(at, Set.of())) {
                    deepest = deepest == null || known.get(next) > known.get(deepest) ? next : deepest;
                }
                at = deepest;
                s.append(at == null ? "" : " > " + at.getSimpleName());
            }
            return s.toString();
        }

        /** How many calls stand open at once, this one and the library's too. */
        private int depth(Element e, Map<Element, Integer> known) {
            Integer before = known.get(e);
            if (before != null) {
                return before;
            }
            // What comes back to itself finds this: far too deep.
            known.put(e, 1000);
            int deepest = 0;
            if (!calls.containsKey(e)) {
                String name = e.getEnclosingElement() + "." + e.getSimpleName();
                boolean own = name.startsWith("NineLamps");
                c.holds("rule 4: " + name, own || LIBRARY.contains(name));
            }
            for (Element next : calls.getOrDefault(e, Set.of())) {
                deepest = Math.max(deepest, depth(next, known));
            }
            known.put(e, deepest + 1);
            return deepest + 1;
        }
    }
}

import com.sun.source.tree.*;
import com.sun.source.util.JavacTask;
import com.sun.source.util.TreePath;
import com.sun.source.util.TreePathScanner;
import com.sun.source.util.Trees;
import java.io.File;
import java.lang.reflect.Field;
import java.lang.reflect.Member;
import java.lang.reflect.Method;
import java.lang.reflect.Modifier;
import java.util.*;
import javax.lang.model.element.Element;
import javax.lang.model.element.ElementKind;
import javax.lang.model.element.ExecutableElement;
import javax.lang.model.type.TypeKind;
import javax.lang.model.type.TypeMirror;
import javax.tools.JavaCompiler;
import javax.tools.StandardJavaFileManager;
import javax.tools.ToolProvider;

/** The rules of LANGUAGE.md that can be read off the source, and the room that an object and its calls take. */
public final class LanguageTest {
    private static final Due due = new Due("LanguageTest");
    private static final String SOURCE = "src/main/java/WallsLeft.java";
    private static final String FACE = "builder(int,int)int of(int,int)int at(int,int)int can(int,int)int terms(int,int)int "
        + "feed(int,int,int,int,int)int end(int)int row()int bubbles()int law()int orders()int fault()int stopped()int force(int)int "
        + "begin(int,int)int lay(int)int die(int)int pass()int undo()int chance(int,int)long years(int,int)int lives(int,int)long "
        + "plan(int,int)long bridge(int,int,int)long stair(int)int stretch(int,int)int rooms(int)int seat()int seen(int,int)int "
        + "forget()int canBe()int look(int)int few(int,int)long compare(int,int)int centuries(int,int)int drawn(int,int)int "
        + "image(int)int back(int)int count(int)int status()int";

    public static void main(String[] args) throws Exception {
        face();
        source();
        room();
        due.end();
    }

    private static void face() {
        due.so(Modifier.isPublic(WallsLeft.class.getModifiers()) && Modifier.isFinal(WallsLeft.class.getModifiers()), "public and final");
        Set<String> shown = new TreeSet<>();
        Set<String> names = new TreeSet<>();
        for (Method m : WallsLeft.class.getDeclaredMethods()) {
            if (Modifier.isPublic(m.getModifiers())) {
                StringJoiner types = new StringJoiner(",");
                for (Class<?> type : m.getParameterTypes()) {
                    types.add(type.getName());
                }
                shown.add(m.getName() + "(" + types + ")" + m.getReturnType());
                names.add(m.getName());
            }
        }
        due.so(shown.equals(new TreeSet<>(Arrays.asList(FACE.split(" ")))), "the face: " + shown);
        for (Member m : members(WallsLeft.class)) {
            boolean known = names.contains(m.getName()) && m instanceof Method || m.getName().equals("NONE");
            due.so(known == Modifier.isPublic(m.getModifiers()) && known != Modifier.isPrivate(m.getModifiers()), "hidden or of the face: " + m);
        }
        for (Class<?> inside : WallsLeft.class.getDeclaredClasses()) {
            due.so(Modifier.isStatic(inside.getModifiers()) && !Modifier.isPublic(inside.getModifiers()), "static and hidden: " + inside);
            due.is(0, inside.getDeclaredClasses().length, "no class within " + inside);
            for (Method m : inside.getDeclaredMethods()) {
                due.so(!names.contains(m.getName()), "no name of the face: " + m);
            }
        }
        due.so(WallsLeft.class.getDeclaredClasses().length <= 12, "some twelve classes");
    }

    private static List<Member> members(Class<?> of) {
        List<Member> all = new ArrayList<>();
        for (Method m : of.getDeclaredMethods()) {
            if (!m.isSynthetic()) {
                all.add(m);
            }
        }
        all.addAll(Arrays.asList(of.getDeclaredFields()));
        return all;
    }

    private static void source() throws Exception {
        JavaCompiler compiler = ToolProvider.getSystemJavaCompiler();
        try (StandardJavaFileManager files = compiler.getStandardFileManager(null, null, null)) {
            JavacTask task = (JavacTask) compiler.getTask(null, files, null, List.of("-proc:none"), null,
                files.getJavaFileObjects(new File(SOURCE)));
            CompilationUnitTree unit = task.parse().iterator().next();
            task.analyze();
            due.so(unit.getPackageName() == null && unit.getImports().isEmpty(), "no package, no import");
            Rules rules = new Rules(Trees.instance(task), unit);
            rules.scan(unit, null);
            rules.depths();
        }
    }

    /** Goes through the source once. */
    private static final class Rules extends TreePathScanner<Void, Void> {
        private static final Set<Tree.Kind> BARRED = EnumSet.of(Tree.Kind.THROW, Tree.Kind.TRY, Tree.Kind.CATCH, Tree.Kind.SYNCHRONIZED,
            Tree.Kind.ASSERT, Tree.Kind.LAMBDA_EXPRESSION, Tree.Kind.MEMBER_REFERENCE, Tree.Kind.BINDING_PATTERN,
            Tree.Kind.SWITCH_EXPRESSION, Tree.Kind.INSTANCE_OF, Tree.Kind.ANNOTATION);
        private static final Set<String> LIBRARY = Set.of("String.length", "String.charAt", "Math.min", "Math.max", "Integer.bitCount",
            "System.arraycopy", "Object.<init>");

        private final Trees trees;
        private final CompilationUnitTree unit;
        private final Map<Element, Set<Element>> calls = new LinkedHashMap<>();

        Rules(Trees trees, CompilationUnitTree unit) {
            this.trees = trees;
            this.unit = unit;
        }

        @Override
        public Void scan(Tree tree, Void none) {
            if (tree != null) {
                due.so(!BARRED.contains(tree.getKind()), tree.getKind() + " in line " + line(tree));
            }
            return super.scan(tree, none);
        }

        private long line(Tree tree) {
            return unit.getLineMap().getLineNumber(trees.getSourcePositions().getStartPosition(unit, tree));
        }

        private Element here(Tree.Kind kind) {
            for (TreePath p = getCurrentPath(); p != null; p = p.getParentPath()) {
                if (p.getLeaf().getKind() == kind) {
                    return trees.getElement(p);
                }
            }
            return null;
        }

        @Override
        public Void visitClass(ClassTree tree, Void none) {
            int fields = 0;
            for (Tree member : tree.getMembers()) {
                if (member instanceof VariableTree v && !v.getModifiers().getFlags().contains(javax.lang.model.element.Modifier.STATIC)) {
                    fields++;
                }
                due.so(member.getKind() != Tree.Kind.BLOCK, "no initialiser block in " + tree.getSimpleName());
            }
            due.so(fields <= 20, fields + " fields in " + tree.getSimpleName());
            return super.visitClass(tree, none);
        }

        @Override
        public Void visitVariable(VariableTree tree, Void none) {
            Element e = trees.getElement(getCurrentPath());
            if (e.getKind() == ElementKind.FIELD && e.getModifiers().contains(javax.lang.model.element.Modifier.STATIC)) {
                due.so(e.getModifiers().contains(javax.lang.model.element.Modifier.FINAL), "final: " + e);
            }
            return super.visitVariable(tree, none);
        }

        @Override
        public Void visitMethod(MethodTree tree, Void none) {
            long from = line(tree);
            long to = unit.getLineMap().getLineNumber(trees.getSourcePositions().getEndPosition(unit, tree));
            due.so(to - from < 60, "a short method: " + tree.getName() + " in line " + from);
            due.so(!Set.of("equals", "hashCode", "toString").contains(tree.getName().toString()), "no " + tree.getName() + " of its own");
            due.so(tree.getParameters().size() <= 7, "seven parameters at most: " + tree.getName());
            calls.computeIfAbsent(trees.getElement(getCurrentPath()), e -> new LinkedHashSet<>());
            return super.visitMethod(tree, none);
        }

        private void notOfLibrary() {
            Element e = trees.getElement(getCurrentPath());
            boolean field = e != null && e.getKind() == ElementKind.FIELD && !e.getSimpleName().contentEquals("length");
            due.so(!field || e.getEnclosingElement().toString().startsWith("WallsLeft"), "a field of the library: " + e);
        }

        @Override
        public Void visitMemberSelect(MemberSelectTree tree, Void none) {
            notOfLibrary();
            return super.visitMemberSelect(tree, none);
        }

        @Override
        public Void visitLiteral(LiteralTree tree, Void none) {
            if (tree.getValue() instanceof String text) {
                due.so(text.chars().allMatch(c -> c >= 1 && c <= 127), "plain signs in line " + line(tree));
            }
            return super.visitLiteral(tree, none);
        }

        @Override
        public Void visitIdentifier(IdentifierTree tree, Void none) {
            notOfLibrary();
            constantRow(trees.getElement(getCurrentPath()), tree);
            return super.visitIdentifier(tree, none);
        }

        /** A static array is only ever handed to get(), which reads it. */
        private void constantRow(Element e, Tree tree) {
            boolean row = e != null && e.getKind() == ElementKind.FIELD && e.asType().getKind() == TypeKind.ARRAY
                && e.getModifiers().contains(javax.lang.model.element.Modifier.STATIC);
            if (row) {
                Tree parent = getCurrentPath().getParentPath().getLeaf();
                boolean read = parent instanceof MethodInvocationTree call && call.getMethodSelect().toString().equals("get");
                due.so(read, e + " is only read, in line " + line(tree));
            }
        }

        @Override
        public Void visitMethodInvocation(MethodInvocationTree tree, Void none) {
            Element called = trees.getElement(getCurrentPath());
            Element within = here(Tree.Kind.METHOD);
            boolean first = called.getKind() == ElementKind.CONSTRUCTOR;
            due.so(first || within == null || within.getKind() != ElementKind.CONSTRUCTOR, "a constructor calls nothing, in line " + line(tree));
            String owner = called.getEnclosingElement().getSimpleName().toString();
            boolean own = called.getEnclosingElement().toString().startsWith("WallsLeft");
            due.so(own || LIBRARY.contains(owner + "." + called.getSimpleName()), "library: " + owner + "." + called.getSimpleName());
            Element caller = here(Tree.Kind.METHOD);
            if (own && caller != null) {
                calls.computeIfAbsent(caller, e -> new LinkedHashSet<>()).add(called);
            }
            return super.visitMethodInvocation(tree, none);
        }

        private void made(Tree tree) {
            Element method = here(Tree.Kind.METHOD);
            due.so(method == null || method.getKind() == ElementKind.CONSTRUCTOR, "made outside of a constructor in line " + line(tree));
        }

        @Override
        public Void visitNewClass(NewClassTree tree, Void none) {
            made(tree);
            due.so(tree.getClassBody() == null, "no anonymous class in line " + line(tree));
            return super.visitNewClass(tree, none);
        }

        @Override
        public Void visitNewArray(NewArrayTree tree, Void none) {
            made(tree);
            return super.visitNewArray(tree, none);
        }

        @Override
        public Void visitBinary(BinaryTree tree, Void none) {
            TypeMirror type = trees.getTypeMirror(getCurrentPath());
            due.so(type.getKind().isPrimitive(), "no text is joined by + in line " + line(tree));
            for (Tree side : List.of(tree.getLeftOperand(), tree.getRightOperand())) {
                TypeMirror t = trees.getTypeMirror(new TreePath(getCurrentPath(), side));
                due.so(t.getKind() != TypeKind.DECLARED || !t.toString().equals("java.lang.String"), "no text is compared by == in line " + line(tree));
            }
            return super.visitBinary(tree, none);
        }

        @Override
        public Void visitTypeCast(TypeCastTree tree, Void none) {
            due.so(trees.getTypeMirror(getCurrentPath()).getKind().isPrimitive(), "casts of numbers alone, in line " + line(tree));
            return super.visitTypeCast(tree, none);
        }

        /** Calls that are no recursion go at most eight deep: the methods that call one another count as one. */
        void depths() {
            Map<Element, Set<Element>> reach = new LinkedHashMap<>();
            for (Element from : calls.keySet()) {
                Set<Element> all = new LinkedHashSet<>();
                Deque<Element> todo = new ArrayDeque<>(calls.get(from));
                while (!todo.isEmpty()) {
                    Element e = todo.pop();
                    if (all.add(e)) {
                        todo.addAll(calls.getOrDefault(e, Set.of()));
                    }
                }
                reach.put(from, all);
            }
            for (Element e : calls.keySet()) {
                List<String> way = deepest(e, reach);
                due.so(way.size() <= 8, "calls go eight deep at most: " + way);
                if (reach.get(e).contains(e)) {
                    due.so(e.getModifiers().contains(javax.lang.model.element.Modifier.PRIVATE), "what calls itself is private: " + e);
                    due.so(((ExecutableElement) e).getParameters().size() == 1, "and carries its depth: " + e);
                }
            }
        }

        private List<String> deepest(Element from, Map<Element, Set<Element>> reach) {
            Set<Element> same = new LinkedHashSet<>(List.of(from));
            for (Element e : reach.getOrDefault(from, Set.of())) {
                if (reach.getOrDefault(e, Set.of()).contains(from)) {
                    same.add(e);
                }
            }
            List<String> best = List.of();
            for (Element member : same) {
                for (Element to : calls.getOrDefault(member, Set.of())) {
                    if (!same.contains(to)) {
                        List<String> way = deepest(to, reach);
                        best = way.size() > best.size() ? way : best;
                    }
                }
            }
            List<String> all = new ArrayList<>();
            all.add(from.getSimpleName().toString());
            all.addAll(best);
            return all;
        }
    }

    // ---- room

    private static int objects = 0;
    private static int elements = 0;

    private static void room() throws Exception {
        weigh(new WallsLeft(), Collections.newSetFromMap(new IdentityHashMap<>()));
        System.out.println("LanguageTest: an object is " + objects + " objects and arrays, " + elements + " fields and elements");
        due.so(objects < 600 && elements < 20_000, "an object is small");
        com.sun.management.ThreadMXBean threads = (com.sun.management.ThreadMXBean) java.lang.management.ManagementFactory.getThreadMXBean();
        if (!threads.isThreadAllocatedMemorySupported()) {
            return;
        }
        WallsLeft x = new WallsLeft();
        busy(x);
        long id = Thread.currentThread().getId();
        long least = Long.MAX_VALUE;
        // The machine may make something of its own in one of the rounds, not in each.
        for (int i = 0; i < 3; i++) {
            long none = threads.getThreadAllocatedBytes(id);
            long asking = threads.getThreadAllocatedBytes(id) - none;
            long ahead = threads.getThreadAllocatedBytes(id);
            busy(x);
            least = Math.min(least, threads.getThreadAllocatedBytes(id) - ahead - asking);
        }
        due.so(least <= 0, "calls make nothing: " + least + " bytes");
    }

    /** Every call, with all that it can go through. */
    private static void busy(WallsLeft x) {
        x.image(1);
        for (int i = 0; i < 7; i++) {
            x.builder(30 + i, 1 + i % 3);
        }
        for (int what = 0; what < 17; what++) {
            x.terms(what % 3, what % 3);
            x.of(0, what);
            x.at(0, what);
            x.can(0, what);
            x.count(what);
            x.seen(1, 1);
            x.drawn(0, what);
        }
        // "dies 5 if age > 40 or [1+2]*3 = mood", then "pass times 2; lay 7"
        x.feed(0x64696573, 0x20352069, 0x66206167, 0x65203E20, 0x3430206F);
        x.feed(0x72205B31, 0x2B325D2A, 0x33203D20, 0x6D6F6F64, 0x20202020);
        x.law();
        x.force(0);
        x.feed(0x70617373, 0x2074696D, 0x65732032, 0x3B206C61, 0x79203720);
        x.orders();
        x.feed(0x70617373, 0x2074696D, 0x65732032, 0x20202020, 0x20202020);
        x.orders();
        x.feed(0x1E011E02, 0x1E03FFFF, 0, 0, 0);
        x.end(7);
        x.row();
        x.bubbles();
        x.fault();
        x.stopped();
        x.begin(0, 3);
        x.lay(0);
        x.pass();
        x.die(1);
        x.undo();
        x.chance(0, 1);
        x.years(0, 1);
        x.lives(0, 99);
        x.plan(63 << 4, -1);
        x.plan(63 << 4, 1);
        x.bridge(0, 1, 40);
        x.stair(0);
        x.stretch(5, 1);
        x.rooms(5);
        x.seat();
        x.canBe();
        x.forget();
        x.look(0);
        x.few(20, 99);
        x.compare(0, 0);
        x.centuries(77, 60);
        x.image(0);
        x.back(0);
        x.status();
        x.back(1);
    }

    private static void weigh(Object o, Set<Object> known) throws Exception {
        if (o == null || o instanceof String || !known.add(o)) {
            return;
        }
        objects++;
        if (o.getClass().isArray()) {
            int length = java.lang.reflect.Array.getLength(o);
            elements += length;
            for (int i = 0; i < length && !o.getClass().getComponentType().isPrimitive(); i++) {
                weigh(java.lang.reflect.Array.get(o, i), known);
            }
            return;
        }
        for (Field f : o.getClass().getDeclaredFields()) {
            if (!Modifier.isStatic(f.getModifiers())) {
                elements++;
                f.setAccessible(true);
                if (!f.getType().isPrimitive()) {
                    weigh(f.get(o), known);
                }
            }
        }
    }
}

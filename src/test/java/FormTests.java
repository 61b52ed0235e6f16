import com.sun.source.tree.*;
import com.sun.source.util.*;
import java.io.File;
import java.lang.management.ManagementFactory;
import java.lang.reflect.Constructor;
import java.lang.reflect.Field;
import java.lang.reflect.Method;
import java.lang.reflect.Modifier;
import java.nio.file.Files;
import java.util.*;
import javax.lang.model.element.Element;
import javax.lang.model.element.ElementKind;
import javax.lang.model.element.ExecutableElement;
import javax.lang.model.element.TypeElement;
import javax.tools.JavaCompiler;
import javax.tools.StandardJavaFileManager;
import javax.tools.ToolProvider;

/**
 * The class's face as the document writes it, and the rules of LANGUAGE.md that can be looked up in the source. Some are
 * kept more narrowly than they are written (no while, no object made by a call), for the class needs no more.
 */
public final class FormTests {
    private static final String SOURCE = "src/main/java/WarrantWeather.java";
    private static final String FACE = "folk(int,int,int)int sky(int,int)boolean skies(int)int "
            + "decree(int,int,boolean)boolean chance(int,int)boolean ruin(int)boolean feed(int,int,int,int,int)int "
            + "end(int)int text()int fault(int)int by(int)boolean warrant(int,int)int letGo()int undo()int "
            + "of(int,int,int)int on(int,int,int)int gain(int,int,boolean)int sum(int,int,int,boolean)int "
            + "ruined(int)int led(int,int)int odds(int,int,int)int plan(int,int,int,int)int found(int,int)int "
            + "even(int,int)int flood(int)int reform(int)int sing(int,int)int heard(int,int)int image()int back()int "
            + "about(int)int";
    private static final Set<String> LIBRARY = Set.of("String.length", "String.charAt", "Math.max", "Math.min",
            "Arrays.fill", "System.arraycopy", "Object.<init>");
    private static final Set<Tree.Kind> RULED_OUT = EnumSet.of(Tree.Kind.THROW, Tree.Kind.TRY, Tree.Kind.SYNCHRONIZED,
            Tree.Kind.ASSERT, Tree.Kind.LAMBDA_EXPRESSION, Tree.Kind.MEMBER_REFERENCE, Tree.Kind.INSTANCE_OF,
            Tree.Kind.TYPE_CAST, Tree.Kind.WHILE_LOOP, Tree.Kind.DO_WHILE_LOOP, Tree.Kind.FLOAT_LITERAL,
            Tree.Kind.DOUBLE_LITERAL);
    private static int wrong;

    private static void rule(int number, boolean kept, String what) {
        if (!kept) {
            wrong++;
            System.out.println("rule " + number + ": " + what);
        }
    }

    private static void face() throws ReflectiveOperationException {
        Set<String> face = new TreeSet<>(Arrays.asList(FACE.split(" ")));
        Set<String> seen = new TreeSet<>();
        Set<String> names = new HashSet<>();
        for (Method m : WarrantWeather.class.getDeclaredMethods()) {
            if (!Modifier.isPrivate(m.getModifiers())) {
                StringJoiner parts = new StringJoiner(",", m.getName() + "(", ")" + m.getReturnType());
                Arrays.stream(m.getParameterTypes()).forEach(t -> parts.add(t.toString()));
                seen.add(parts.toString());
                names.add(m.getName());
                rule(1, Modifier.isPublic(m.getModifiers()) && !Modifier.isStatic(m.getModifiers()), m.toString());
            }
        }
        rule(1, seen.equals(face), "the face is " + seen);
        for (Method m : WarrantWeather.class.getDeclaredMethods()) {
            rule(1, !Modifier.isPrivate(m.getModifiers()) || !names.contains(m.getName()), m.toString());
        }
        for (Field f : WarrantWeather.class.getDeclaredFields()) {
            rule(1, Modifier.isPrivate(f.getModifiers()) || f.getName().equals("NONE"), f.toString());
        }
        Constructor<?>[] made = WarrantWeather.class.getDeclaredConstructors();
        rule(1, made.length == 1 && Modifier.isPublic(made[0].getModifiers())
                && made[0].getParameterCount() == 0, "the constructor");
        int modifiers = WarrantWeather.class.getModifiers();
        rule(1, Modifier.isPublic(modifiers) && Modifier.isFinal(modifiers), "public and final");
        modifiers = WarrantWeather.class.getField("NONE").getModifiers();
        rule(1, Modifier.isStatic(modifiers) && Modifier.isFinal(modifiers), "NONE");
        for (Class<?> c : WarrantWeather.class.getDeclaredClasses()) {
            rule(1, Modifier.isStatic(c.getModifiers()) && !Modifier.isPublic(c.getModifiers())
                    && !Modifier.isProtected(c.getModifiers()), c.toString());
            for (Method m : c.getDeclaredMethods()) {
                rule(1, !names.contains(m.getName()), m.toString());
            }
        }
    }

    /** Looks at every part of the source, and gathers which method calls which. */
    private static final class Looker extends TreePathScanner<Void, Void> {
        final Trees trees;
        final CompilationUnitTree unit;
        final Map<String, Set<String>> calls = new TreeMap<>();
        final Set<String> exposed = new TreeSet<>();
        final Set<String> recursive = new TreeSet<>();
        int classes;
        int loops;
        private String method = "";

        Looker(Trees trees, CompilationUnitTree unit) {
            this.trees = trees;
            this.unit = unit;
        }

        private long line(long place) {
            return unit.getLineMap().getLineNumber(place);
        }

        @Override
        public Void scan(Tree tree, Void none) {
            if (tree != null && RULED_OUT.contains(tree.getKind()) && !isCastOfLong(tree)) {
                rule(6, false, tree.getKind() + ": " + tree);
            }
            return super.scan(tree, none);
        }

        /** The one cast that is in use: of a number. */
        private boolean isCastOfLong(Tree tree) {
            return tree instanceof TypeCastTree cast && cast.getType() instanceof PrimitiveTypeTree;
        }

        @Override
        public Void visitImport(ImportTree tree, Void none) {
            String name = tree.getQualifiedIdentifier().toString();
            rule(4, Set.of("java.util.Arrays", "java.util.ArrayList", "java.util.List").contains(name), name);
            return super.visitImport(tree, none);
        }

        @Override
        public Void visitPackage(PackageTree tree, Void none) {
            rule(1, false, "a package line");
            return super.visitPackage(tree, none);
        }

        @Override
        public Void visitClass(ClassTree tree, Void none) {
            classes++;
            rule(2, method.isEmpty() && tree.getKind() == Tree.Kind.CLASS, tree.getSimpleName() + " is no class of its own");
            int fields = 0;
            for (Tree member : tree.getMembers()) {
                boolean isStatic = member instanceof VariableTree v
                        && v.getModifiers().getFlags().contains(javax.lang.model.element.Modifier.STATIC);
                fields += member instanceof VariableTree && !isStatic ? 1 : 0;
                rule(5, !isStatic || ((VariableTree) member).getModifiers().getFlags()
                        .contains(javax.lang.model.element.Modifier.FINAL), member.toString());
                rule(5, !(member instanceof BlockTree), "a block in " + tree.getSimpleName());
            }
            rule(11, fields <= 20, tree.getSimpleName() + " has " + fields + " fields");
            return super.visitClass(tree, none);
        }

        @Override
        public Void visitMethod(MethodTree tree, Void none) {
            Element element = trees.getElement(getCurrentPath());
            method = nameOf(element);
            calls.putIfAbsent(method, new TreeSet<>());
            SourcePositions places = trees.getSourcePositions();
            long from = places.getStartPosition(unit, tree);
            long to = places.getEndPosition(unit, tree);
            if (from >= 0 && to > from) {
                rule(11, line(to) - line(from) < 60, method + " is long");
            }
            rule(11, tree.getParameters().size() <= 7, method + " takes too many");
            rule(6, !Set.of("equals", "hashCode", "toString").contains(tree.getName().toString()), method);
            if (element.getModifiers().contains(javax.lang.model.element.Modifier.PUBLIC)) {
                exposed.add(method);
            }
            super.visitMethod(tree, none);
            method = "";
            return null;
        }

        private static String nameOf(Element element) {
            return element.getEnclosingElement().getSimpleName() + "." + element.getSimpleName();
        }

        private void call(Element element) {
            if (element instanceof ExecutableElement && !method.isEmpty()) {
                String name = nameOf(element);
                TypeElement owner = (TypeElement) element.getEnclosingElement();
                boolean own = owner.getQualifiedName().toString().startsWith("WarrantWeather");
                rule(4, own || LIBRARY.contains(name), "the library's " + name);
                calls.computeIfAbsent(method, k -> new TreeSet<>()).add(name);
            }
        }

        @Override
        public Void visitMethodInvocation(MethodInvocationTree tree, Void none) {
            call(trees.getElement(new TreePath(getCurrentPath(), tree.getMethodSelect())));
            return super.visitMethodInvocation(tree, none);
        }

        @Override
        public Void visitNewClass(NewClassTree tree, Void none) {
            rule(2, tree.getClassBody() == null, "an anonymous class");
            rule(12, method.endsWith("<init>") || method.isEmpty(), "an object is made in " + method);
            call(trees.getElement(getCurrentPath()));
            return super.visitNewClass(tree, none);
        }

        @Override
        public Void visitNewArray(NewArrayTree tree, Void none) {
            rule(12, method.endsWith("<init>") || method.isEmpty(), "an array is made in " + method);
            return super.visitNewArray(tree, none);
        }

        @Override
        public Void visitVariable(VariableTree tree, Void none) {
            Element element = trees.getElement(getCurrentPath());
            boolean isStatic = element.getModifiers().contains(javax.lang.model.element.Modifier.STATIC);
            String type = element.asType().toString();
            rule(3, type.matches("(int|long|char|boolean)|int\\[\\]|java.lang.String|WarrantWeather\\.\\w+(\\[\\])?"), tree.toString());
            if (element.getKind() == ElementKind.FIELD && isStatic) {
                rule(5, tree.getInitializer() != null, tree.toString());
                rule(5, !type.endsWith("[]") || tree.getInitializer() instanceof NewArrayTree made
                        && made.getInitializers() != null, tree.toString());
                rule(5, type.matches("int|java.lang.String|int\\[\\]"), tree.toString());
            }
            return super.visitVariable(tree, none);
        }

        @Override
        public Void visitAssignment(AssignmentTree tree, Void none) {
            if (tree.getVariable() instanceof ArrayAccessTree row) {
                Element element = trees.getElement(new TreePath(getCurrentPath(), row.getExpression()));
                rule(5, element == null || !element.getModifiers().contains(javax.lang.model.element.Modifier.STATIC),
                        "a constant's row is changed: " + tree);
            }
            return super.visitAssignment(tree, none);
        }

        @Override
        public Void visitBinary(BinaryTree tree, Void none) {
            for (Tree side : List.of(tree.getLeftOperand(), tree.getRightOperand())) {
                String type = String.valueOf(trees.getTypeMirror(new TreePath(getCurrentPath(), side)));
                rule(10, !type.equals("java.lang.String"), "texts are joined or compared: " + tree);
            }
            return super.visitBinary(tree, none);
        }

        /** A constructor may set fields of its own, but hands itself to nobody. */
        @Override
        public Void visitIdentifier(IdentifierTree tree, Void none) {
            boolean isField = getCurrentPath().getParentPath().getLeaf() instanceof MemberSelectTree;
            rule(12, !tree.getName().contentEquals("this") || isField, "an object hands itself out in " + method);
            return super.visitIdentifier(tree, none);
        }

        @Override
        public Void visitForLoop(ForLoopTree tree, Void none) {
            loops++;
            boolean counts = tree.getCondition() != null && tree.getUpdate().size() == 1;
            rule(9, counts, "a loop without a count: " + tree);
            return super.visitForLoop(tree, none);
        }

        /** The longest chain of calls, each method counted once: how often one comes again is recursion's. */
        int deepest(String from, Set<String> open) {
            int most = 0;
            open.add(from);
            for (String to : calls.getOrDefault(from, Set.of())) {
                if (open.contains(to)) {
                    recursive.add(to);
                } else {
                    most = Math.max(most, deepest(to, open));
                }
            }
            open.remove(from);
            return most + 1;
        }
    }

    private static void source() throws Exception {
        JavaCompiler compiler = ToolProvider.getSystemJavaCompiler();
        try (StandardJavaFileManager files = compiler.getStandardFileManager(null, null, null)) {
            JavacTask task = (JavacTask) compiler.getTask(null, files, null, List.of("-proc:none"), null,
                    files.getJavaFileObjects(new File(SOURCE)));
            CompilationUnitTree unit = task.parse().iterator().next();
            task.analyze();
            Looker looker = new Looker(Trees.instance(task), unit);
            looker.scan(unit, null);
            rule(11, looker.classes <= 12, looker.classes + " classes");
            for (String method : looker.exposed) {
                int deep = looker.deepest(method, new HashSet<>());
                rule(11, deep <= 8, method + " goes " + deep + " deep");
            }
            // Their depth is carried: readSum and readOne by what stands open (8), follow by the day of a plan (10).
            rule(8, Set.of("Reader.readSum", "Planner.follow").equals(looker.recursive), "recursion: " + looker.recursive);
            rule(0, looker.exposed.size() == 32 && looker.loops > 20, "the source was looked at");
        }
        for (byte b : Files.readAllBytes(new File(SOURCE).toPath())) {
            rule(4, b > 0, "a sign that is none of 1 to 127");
        }
    }

    private static void tell(WarrantWeather x, int[] words) {
        for (int i = 0; i + 5 <= words.length; i += 5) {
            x.feed(words[i], words[i + 1], words[i + 2], words[i + 3], words[i + 4]);
        }
    }

    private static int[] wordsOf(String signs) {
        int[] words = new int[(signs.length() + 19) / 20 * 5];
        for (int i = 0; i < words.length * 4; i++) {
            words[i / 4] = words[i / 4] << 8 | (i < signs.length() ? signs.charAt(i) : ' ');
        }
        return words;
    }

    private static void callAll(WarrantWeather x, int[] law, int[] song) {
        x.folk(1, 2, 3);
        x.skies(17);
        tell(x, law);
        x.text();
        x.by(0);
        x.warrant(0, 29);
        x.letGo();
        x.image();
        x.decree(3, 1, true);
        x.undo();
        for (int i = -1; i < 4; i++) {
            x.of(3, 1, i);
            x.on(0, 3, i);
            x.ruined(i);
            x.led(0, i);
            x.odds(4, 1, i);
            x.plan(1, 7, 10, i);
            x.found(1, i);
            x.even(4, i);
            x.flood(i);
            x.reform(i);
            x.fault(i);
            x.about(i);
        }
        x.gain(0, 5, true);
        x.sum(-1, 0, 29, false);
        tell(x, song);
        x.heard(0, 3);
        x.sing(0, 3);
        x.chance(3, 3);
        x.ruin(7);
        x.sky(3, 3);
        x.end(0);
        x.back();
    }

    /** All rows are made with the object: no call makes anything more. */
    private static void room() {
        int[] law = wordsOf("warrant seen>4; does sky>fear; gain act*(wet-3); fine 2; appeal hats>3; toll mine-others;");
        int[] song = wordsOf("la lune est bleue");
        com.sun.management.ThreadMXBean threads =
                (com.sun.management.ThreadMXBean) ManagementFactory.getThreadMXBean();
        WarrantWeather x = new WarrantWeather();
        long least = Long.MAX_VALUE;
        for (int i = 0; i < 5; i++) {
            long from = threads.getCurrentThreadAllocatedBytes();
            callAll(x, law, song);
            least = Math.min(least, threads.getCurrentThreadAllocatedBytes() - from);
        }
        rule(12, least < 200, "calls make objects: " + least + " bytes");
        long from = threads.getCurrentThreadAllocatedBytes();
        x = new WarrantWeather();
        long made = threads.getCurrentThreadAllocatedBytes() - from;
        rule(12, x.about(0) == 0 && made < 40000, "an object is of " + made + " bytes");
    }

    public static void main(String[] args) throws Exception {
        face();
        source();
        room();
        System.out.println(wrong == 0 ? "the form is kept" : wrong + " faults of form");
        if (wrong != 0) {
            System.exit(1);
        }
    }
}

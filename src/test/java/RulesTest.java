import com.sun.source.tree.AnnotationTree;
import com.sun.source.tree.AssertTree;
import com.sun.source.tree.BinaryTree;
import com.sun.source.tree.ClassTree;
import com.sun.source.tree.CompilationUnitTree;
import com.sun.source.tree.CompoundAssignmentTree;
import com.sun.source.tree.DoWhileLoopTree;
import com.sun.source.tree.ExpressionTree;
import com.sun.source.tree.ForLoopTree;
import com.sun.source.tree.ImportTree;
import com.sun.source.tree.InstanceOfTree;
import com.sun.source.tree.LambdaExpressionTree;
import com.sun.source.tree.LiteralTree;
import com.sun.source.tree.MemberReferenceTree;
import com.sun.source.tree.MethodInvocationTree;
import com.sun.source.tree.MethodTree;
import com.sun.source.tree.ModifiersTree;
import com.sun.source.tree.NewArrayTree;
import com.sun.source.tree.NewClassTree;
import com.sun.source.tree.PackageTree;
import com.sun.source.tree.SynchronizedTree;
import com.sun.source.tree.ThrowTree;
import com.sun.source.tree.Tree;
import com.sun.source.tree.TryTree;
import com.sun.source.tree.TypeCastTree;
import com.sun.source.tree.VariableTree;
import com.sun.source.tree.WhileLoopTree;
import com.sun.source.util.JavacTask;
import com.sun.source.util.TreePathScanner;
import com.sun.source.util.Trees;
import java.lang.reflect.Array;
import java.lang.reflect.Field;
import java.nio.file.Files;
import java.nio.file.Path;
import java.util.ArrayList;
import java.util.IdentityHashMap;
import java.util.List;
import java.util.Map;
import java.util.Set;
import java.util.TreeMap;
import java.util.TreeSet;
import javax.lang.model.element.Element;
import javax.lang.model.element.ElementKind;
import javax.lang.model.element.ExecutableElement;
import javax.lang.model.element.Modifier;
import javax.lang.model.element.TypeElement;
import javax.tools.JavaCompiler;
import javax.tools.StandardJavaFileManager;
import javax.tools.ToolProvider;

/** The rules of ../shared/LANGUAGE.md, looked at in the tree that the compiler makes of the file. */
public final class RulesTest {
    private static final Path FILE = Path.of("src/main/java/EvenWords.java");
    private static final int MOST_DEEP = 8;
    private static final int MOST_LINES = 60;
    private static final int MOST_CLASSES = 12;
    private static final int MOST_FIELDS = 20;
    private static final int MOST_PARAMETERS = 7;
    private static final Set<String> LIBRARY = Set.of("java.lang.Math.max", "java.lang.Math.min", "java.lang.Integer.bitCount");
    private static final Set<String> TYPES = Set.of("int", "long", "boolean", "int[]", "long[]", "boolean[]", "void");

    private static int wrong = 0;

    private static void check(boolean stands, String what) {
        if (!stands) {
            wrong++;
            System.out.println("does not stand: " + what);
        }
    }

    public static void main(String[] args) throws Exception {
        Rules rules = scanned();
        rules.callsAndRecursion();
        plainSigns();
        room();
        System.out.println(wrong == 0 ? "the rules stand" : wrong + " do not stand");
        if (wrong != 0) {
            System.exit(1);
        }
    }

    private static Rules scanned() throws Exception {
        JavaCompiler compiler = ToolProvider.getSystemJavaCompiler();
        try (StandardJavaFileManager files = compiler.getStandardFileManager(null, null, null)) {
            JavacTask task = (JavacTask) compiler.getTask(null, files, null, List.of("-proc:none", "--release", "17"), null,
                files.getJavaFileObjects(FILE));
            CompilationUnitTree unit = task.parse().iterator().next();
            task.analyze();
            Rules rules = new Rules(Trees.instance(task), unit);
            rules.scan(unit, null);
            return rules;
        }
    }

    private static void plainSigns() throws Exception {
        check(Files.readString(FILE).chars().allMatch(c -> c < 128), "plain signs alone");
    }

    // ---- what stands in the file, and which method calls which

    private static final class Rules extends TreePathScanner<Void, Void> {
        private final Trees trees;
        private final CompilationUnitTree unit;
        private final Map<String, Set<String>> calls = new TreeMap<>();
        private final Set<String> open = new TreeSet<>();
        private final Set<String> closedAndStatic = new TreeSet<>();
        private String method = "";
        private int classes = 0;

        Rules(Trees trees, CompilationUnitTree unit) {
            this.trees = trees;
            this.unit = unit;
        }

        private void refuse(Tree tree, String rule) {
            long at = trees.getSourcePositions().getStartPosition(unit, tree);
            check(false, rule + ", line " + unit.getLineMap().getLineNumber(at));
        }

        private Element element() {
            return trees.getElement(getCurrentPath());
        }

        private static String nameOf(Element e) {
            return ((TypeElement) e.getEnclosingElement()).getQualifiedName() + "." + e;
        }

        @Override
        public Void visitClass(ClassTree tree, Void none) {
            classes++;
            TypeElement type = (TypeElement) element();
            boolean outer = type.getEnclosingElement().getKind() == ElementKind.PACKAGE;
            check(type.getKind() == ElementKind.CLASS, "rule 2: classes are all it needs: " + type);
            check(outer || type.getEnclosingElement().toString().equals("EvenWords"), "rule 2: no class in a class inside: " + type);
            check(outer || type.getModifiers().contains(Modifier.STATIC), "rule 2: a class inside is static: " + type);
            check(outer || !type.getModifiers().contains(Modifier.PUBLIC), "rule 1: a class inside is not public: " + type);
            check(classes <= MOST_CLASSES, "rule 11: at most twelve classes");
            long fields = type.getEnclosedElements().stream()
                .filter(e -> e.getKind() == ElementKind.FIELD && !e.getModifiers().contains(Modifier.STATIC)).count();
            check(fields <= MOST_FIELDS, "rule 11: at most twenty fields: " + type);
            for (Tree member : tree.getMembers()) {
                if (member.getKind() == Tree.Kind.BLOCK) {
                    refuse(member, "rule 5: no initialiser block");
                }
            }
            return super.visitClass(tree, none);
        }

        @Override
        public Void visitMethod(MethodTree tree, Void none) {
            Element e = element();
            String was = method;
            method = nameOf(e);
            calls.putIfAbsent(method, new TreeSet<>());
            if (e.getModifiers().contains(Modifier.PUBLIC)) {
                open.add(method);
            }
            if (e.getModifiers().contains(Modifier.PRIVATE) && e.getModifiers().contains(Modifier.STATIC)) {
                closedAndStatic.add(method);
            }
            check(tree.getParameters().size() <= MOST_PARAMETERS, "rule 11: at most seven parameters: " + method);
            check(tree.getThrows().isEmpty(), "rule 6: no throws: " + method);
            check(linesOf(tree) <= MOST_LINES, "rule 11: at most sixty lines: " + method);
            super.visitMethod(tree, none);
            method = was;
            return null;
        }

        private long linesOf(Tree tree) {
            long from = trees.getSourcePositions().getStartPosition(unit, tree);
            long to = trees.getSourcePositions().getEndPosition(unit, tree);
            return unit.getLineMap().getLineNumber(to) - unit.getLineMap().getLineNumber(from) + 1;
        }

        @Override
        public Void visitVariable(VariableTree tree, Void none) {
            Element e = element();
            String type = e.asType().toString();
            check(TYPES.contains(type) || type.matches("EvenWords\\.\\w+(\\[\\])?"), "rule 3: " + type + " " + e);
            if (e.getKind() == ElementKind.FIELD && e.getModifiers().contains(Modifier.STATIC)) {
                check(e.getModifiers().contains(Modifier.FINAL), "rule 5: " + e + " is final");
                check(!type.endsWith("[]") || writtenOut(tree.getInitializer()), "rule 5: " + e + " is written out");
            }
            return super.visitVariable(tree, none);
        }

        private static boolean writtenOut(ExpressionTree row) {
            return row instanceof NewArrayTree && ((NewArrayTree) row).getInitializers() != null
                && ((NewArrayTree) row).getInitializers().stream().allMatch(Rules::isNumber);
        }

        private static boolean isNumber(ExpressionTree e) {
            return e.getKind() == Tree.Kind.INT_LITERAL || e.toString().matches("-\\d+");
        }

        @Override
        public Void visitMethodInvocation(MethodInvocationTree tree, Void none) {
            ExecutableElement called = (ExecutableElement) element();
            String name = nameOf(called);
            String plain = name.substring(0, name.indexOf('('));
            if (name.startsWith("EvenWords")) {
                calls.computeIfAbsent(method, m -> new TreeSet<>()).add(name);
            } else if (called.getKind() != ElementKind.CONSTRUCTOR) {
                calls.computeIfAbsent(method, m -> new TreeSet<>()).add("library " + plain);
                check(LIBRARY.contains(plain), "rule 4: " + name);
            }
            return super.visitMethodInvocation(tree, none);
        }

        @Override
        public Void visitNewClass(NewClassTree tree, Void none) {
            check(tree.getClassBody() == null, "rule 2: no class without a name");
            check(element().getEnclosingElement().toString().startsWith("EvenWords"), "rule 3: " + tree);
            check(method.isEmpty() || isConstructor(), "an object is made behind the constructor, in " + method);
            return super.visitNewClass(tree, none);
        }

        @Override
        public Void visitNewArray(NewArrayTree tree, Void none) {
            check(method.isEmpty() || isConstructor(), "a row is made behind the constructor, in " + method);
            return super.visitNewArray(tree, none);
        }

        private boolean isConstructor() {
            return method.matches("(EvenWords(\\.\\w+)?)\\.\\w+\\(\\)") && method.matches(".*\\b(\\w+)\\.\\1\\(\\)");
        }

        // ---- loops: the head has a bound

        @Override
        public Void visitForLoop(ForLoopTree tree, Void none) {
            if (!hasBound(tree.getCondition()) || tree.getUpdate().isEmpty()) {
                refuse(tree, "rule 9: a loop's end is seen");
            }
            return super.visitForLoop(tree, none);
        }

        @Override
        public Void visitWhileLoop(WhileLoopTree tree, Void none) {
            if (!hasBound(tree.getCondition())) {
                refuse(tree, "rule 9: a loop's end is seen");
            }
            return super.visitWhileLoop(tree, none);
        }

        @Override
        public Void visitDoWhileLoop(DoWhileLoopTree tree, Void none) {
            if (!hasBound(tree.getCondition())) {
                refuse(tree, "rule 9: a loop's end is seen");
            }
            return super.visitDoWhileLoop(tree, none);
        }

        private static boolean hasBound(ExpressionTree condition) {
            return condition != null && condition.toString().matches(".* (<|<=|>|>=) .*")
                && !condition.toString().contains("||");
        }

        // ---- what may not stand there

        @Override
        public Void visitBinary(BinaryTree tree, Void none) {
            boolean divides = tree.getKind() == Tree.Kind.DIVIDE || tree.getKind() == Tree.Kind.REMAINDER;
            if (divides && !isNumber(tree.getRightOperand()) && !isConstant(tree.getRightOperand())) {
                refuse(tree, "rule 7: a divisor that may be 0");
            }
            return super.visitBinary(tree, none);
        }

        private static boolean isConstant(ExpressionTree e) {
            return e.toString().matches("[A-Z_]+");
        }

        @Override
        public Void visitCompoundAssignment(CompoundAssignmentTree tree, Void none) {
            if (tree.getKind() == Tree.Kind.DIVIDE_ASSIGNMENT || tree.getKind() == Tree.Kind.REMAINDER_ASSIGNMENT) {
                refuse(tree, "rule 7: a divisor that may be 0");
            }
            return super.visitCompoundAssignment(tree, none);
        }

        @Override
        public Void visitTypeCast(TypeCastTree tree, Void none) {
            if (!TYPES.contains(tree.getType().toString())) {
                refuse(tree, "rule 6: a cast to a class");
            }
            return super.visitTypeCast(tree, none);
        }

        @Override
        public Void visitLiteral(LiteralTree tree, Void none) {
            if (tree.getKind() == Tree.Kind.STRING_LITERAL) {
                refuse(tree, "no text is needed");
            }
            return super.visitLiteral(tree, none);
        }

        @Override
        public Void visitThrow(ThrowTree tree, Void none) {
            refuse(tree, "rule 6: throw");
            return null;
        }

        @Override
        public Void visitTry(TryTree tree, Void none) {
            refuse(tree, "rule 6: try");
            return null;
        }

        @Override
        public Void visitSynchronized(SynchronizedTree tree, Void none) {
            refuse(tree, "rule 6: synchronized");
            return null;
        }

        @Override
        public Void visitAssert(AssertTree tree, Void none) {
            refuse(tree, "rule 6: assert");
            return null;
        }

        @Override
        public Void visitInstanceOf(InstanceOfTree tree, Void none) {
            refuse(tree, "instanceof is not needed");
            return null;
        }

        @Override
        public Void visitLambdaExpression(LambdaExpressionTree tree, Void none) {
            refuse(tree, "rule 2: no lambda");
            return null;
        }

        @Override
        public Void visitMemberReference(MemberReferenceTree tree, Void none) {
            refuse(tree, "rule 2: no method reference");
            return null;
        }

        @Override
        public Void visitAnnotation(AnnotationTree tree, Void none) {
            refuse(tree, "no annotation");
            return null;
        }

        @Override
        public Void visitModifiers(ModifiersTree tree, Void none) {
            for (Modifier m : List.of(Modifier.SYNCHRONIZED, Modifier.NATIVE, Modifier.VOLATILE, Modifier.PROTECTED)) {
                check(!tree.getFlags().contains(m), "no " + m);
            }
            return super.visitModifiers(tree, none);
        }

        @Override
        public Void visitImport(ImportTree tree, Void none) {
            refuse(tree, "rule 4: no library but what stands there");
            return null;
        }

        @Override
        public Void visitPackage(PackageTree tree, Void none) {
            refuse(tree, "the file has no package line");
            return null;
        }

        // ---- how deep calls go

        void callsAndRecursion() {
            check(open.size() == 22, "the public ones were seen: " + open.size());
            for (String name : open) {
                List<String> longest = longestFrom(name, new ArrayList<>());
                check(longest.size() <= MOST_DEEP, "rule 11: at most eight deep: " + longest);
            }
            for (Map.Entry<String, Set<String>> entry : calls.entrySet()) {
                for (String called : entry.getValue()) {
                    boolean itself = called.equals(entry.getKey());
                    check(!itself || closedAndStatic.contains(called), "rule 8: only a private static one calls itself: " + called);
                    check(itself || !reaches(called, entry.getKey(), new TreeSet<>()), "rule 8: one another: " + called);
                    check(!open.contains(called), "one of the face is called from inside: " + called);
                }
            }
        }

        private List<String> longestFrom(String name, List<String> ahead) {
            List<String> here = new ArrayList<>(ahead);
            here.add(name);
            List<String> longest = here;
            for (String called : calls.getOrDefault(name, Set.of())) {
                if (!here.contains(called)) {
                    List<String> found = longestFrom(called, here);
                    longest = found.size() > longest.size() ? found : longest;
                }
            }
            return longest;
        }

        private boolean reaches(String from, String to, Set<String> seen) {
            if (from.equals(to)) {
                return true;
            }
            return seen.add(from) && calls.getOrDefault(from, Set.of()).stream().anyMatch(next -> reaches(next, to, seen));
        }
    }

    // ---- what an object is made of: the room that all calls of a run live in

    private static void room() throws Exception {
        EvenWords x = new EvenWords();
        int[] fresh = sizeOf(x);
        check(fresh[0] <= 100 && fresh[1] <= 2000, "an object is small: " + fresh[0] + " made, " + fresh[1] + " kept in them");
        for (int i = 0; i < 500; i++) {
            useOnce(x, i);
        }
        int[] used = sizeOf(x);
        check(used[0] == fresh[0] && used[1] == fresh[1], "an object does not grow: " + used[0] + ", " + used[1]);
    }

    private static void useOnce(EvenWords x, int i) {
        switch (i % 10) {
            case 0 -> x.sends(i % 31);
            case 1 -> x.marks(i % 3);
            case 2 -> x.flips(i % 40);
            case 3 -> x.evenest(6, -1);
            case 4 -> x.read(i % 6, 0, 5);
            case 5 -> x.keep(i % 2);
            case 6 -> x.type(i % 256);
            case 7 -> x.tells();
            case 8 -> x.cuts(-1);
            default -> x.undo();
        }
    }

    /** How many objects and rows hang on this one, and how many fields and elements they have. */
    private static int[] sizeOf(Object root) throws Exception {
        Map<Object, Boolean> seen = new IdentityHashMap<>();
        List<Object> left = new ArrayList<>();
        left.add(root);
        int kept = 0;
        while (!left.isEmpty()) {
            Object o = left.remove(left.size() - 1);
            if (o == null || seen.put(o, true) != null) {
                continue;
            }
            if (o.getClass().isArray()) {
                kept += Array.getLength(o);
                for (int i = 0; i < Array.getLength(o) && !o.getClass().getComponentType().isPrimitive(); i++) {
                    left.add(Array.get(o, i));
                }
                continue;
            }
            for (Field f : o.getClass().getDeclaredFields()) {
                if (!java.lang.reflect.Modifier.isStatic(f.getModifiers())) {
                    kept++;
                    f.setAccessible(true);
                    if (!f.getType().isPrimitive()) {
                        left.add(f.get(o));
                    }
                }
            }
        }
        return new int[] {seen.size(), kept};
    }
}

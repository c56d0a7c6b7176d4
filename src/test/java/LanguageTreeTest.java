import com.sun.source.tree.ArrayAccessTree;
import com.sun.source.tree.AssignmentTree;
import com.sun.source.tree.BlockTree;
import com.sun.source.tree.ClassTree;
import com.sun.source.tree.CompilationUnitTree;
import com.sun.source.tree.CompoundAssignmentTree;
import com.sun.source.tree.LineMap;
import com.sun.source.tree.MethodInvocationTree;
import com.sun.source.tree.MethodTree;
import com.sun.source.tree.NewArrayTree;
import com.sun.source.tree.NewClassTree;
import com.sun.source.tree.Tree;
import com.sun.source.tree.UnaryTree;
import com.sun.source.tree.VariableTree;
import com.sun.source.util.JavacTask;
import com.sun.source.util.SourcePositions;
import com.sun.source.util.TreePath;
import com.sun.source.util.TreePathScanner;
import com.sun.source.util.Trees;
import java.io.IOException;
import java.nio.file.Path;
import java.util.EnumSet;
import java.util.HashMap;
import java.util.HashSet;
import java.util.LinkedHashMap;
import java.util.LinkedHashSet;
import java.util.Map;
import java.util.Set;
import java.util.TreeSet;
import javax.lang.model.element.Element;
import javax.lang.model.element.ElementKind;
import javax.lang.model.element.Modifier;
import javax.tools.JavaCompiler;
import javax.tools.StandardJavaFileManager;
import javax.tools.ToolProvider;

/**
 * Those rules of LANGUAGE.md that need the compiler's view of the source: the
 * types and the library that it uses, static fields, where objects are made,
 * which methods call one another and how deep, how many fields a class has.
 */
public final class LanguageTreeTest {
    private static final Path SOURCE = Path.of("src/main/java/FairLabels.java");
    private static final int MOST_PARAMETERS = 7;
    private static final int MOST_ROWS = 60;
    private static final int MOST_DEPTH = 8;
    private static final int MOST_CLASSES = 12;
    private static final int MOST_FIELDS = 20;
    /** What is used now, here and in the next rows; LANGUAGE.md allows more, which may be put here when it is used. */
    private static final Set<String> LIBRARY = Set.of(
        "String.length", "String.charAt", "Math.min", "Math.max", "Math.abs", "Integer.bitCount",
        "Integer.numberOfTrailingZeros", "System.arraycopy", "Arrays.fill", "Object.<init>");
    private static final Set<String> TYPES = Set.of("int", "boolean", "int[]", "java.lang.String");
    private static final Set<String> STATIC_TYPES = Set.of("int", "int[]");
    /** Two carry their depth, the third one goes from point to point. */
    private static final Set<String> RECURSION = Set.of(
        "Search.placeDifference", "Search.placeOnLine", "Search.placePoint");
    private static final Set<Tree.Kind> BARRED = EnumSet.of(
        Tree.Kind.THROW, Tree.Kind.TRY, Tree.Kind.CATCH, Tree.Kind.SYNCHRONIZED, Tree.Kind.ASSERT,
        Tree.Kind.LAMBDA_EXPRESSION, Tree.Kind.MEMBER_REFERENCE, Tree.Kind.TYPE_CAST, Tree.Kind.INSTANCE_OF,
        Tree.Kind.SWITCH_EXPRESSION, Tree.Kind.DOUBLE_LITERAL, Tree.Kind.FLOAT_LITERAL);

    private static int wrong = 0;

    public static void main(String[] args) throws IOException {
        JavaCompiler compiler = ToolProvider.getSystemJavaCompiler();
        try (StandardJavaFileManager files = compiler.getStandardFileManager(null, null, null)) {
            JavacTask task = (JavacTask) compiler.getTask(null, files, null, null, null,
                files.getJavaFileObjects(SOURCE));
            Iterable<? extends CompilationUnitTree> units = task.parse();
            task.analyze();
            Finder finder = new Finder(Trees.instance(task));
            for (CompilationUnitTree unit : units) {
                finder.scan(unit, null);
            }
            finder.lookAtClasses();
            finder.lookAtCalls();
        }
        System.out.println(wrong + " breaches of the language");
        if (wrong != 0) {
            System.exit(1);
        }
    }

    private static void say(String breach) {
        wrong++;
        System.out.println(breach);
    }

    private static String named(Element member) {
        return member.getEnclosingElement().getSimpleName() + "." + member.getSimpleName();
    }

    /** Notes breaches that a single place shows, and what calls what. */
    private static final class Finder extends TreePathScanner<Void, Void> {
        private final Trees trees;
        private final Map<Element, Set<Element>> calls = new LinkedHashMap<>();
        private final Map<Element, Integer> fields = new LinkedHashMap<>();
        private final Map<Element, Integer> depths = new HashMap<>();

        Finder(Trees ofTask) {
            trees = ofTask;
        }

        private Element element(Tree tree) {
            return trees.getElement(new TreePath(getCurrentPath(), tree));
        }

        private Element here() {
            return trees.getElement(getCurrentPath());
        }

        private static boolean isOwn(Element e) {
            Element at = e;
            while (at.getEnclosingElement() != null && at.getEnclosingElement().getKind().isClass()) {
                at = at.getEnclosingElement();
            }
            return at.getSimpleName().contentEquals("FairLabels");
        }

        /** The method that this place is in; none where fields get their first values. */
        private Element method() {
            for (TreePath at = getCurrentPath(); at != null; at = at.getParentPath()) {
                if (at.getLeaf() instanceof MethodTree) {
                    return trees.getElement(at);
                }
            }
            return null;
        }

        private String place() {
            CompilationUnitTree unit = getCurrentPath().getCompilationUnit();
            SourcePositions positions = trees.getSourcePositions();
            long start = positions.getStartPosition(unit, getCurrentPath().getLeaf());
            return "line " + unit.getLineMap().getLineNumber(start) + ": ";
        }

        @Override
        public Void scan(Tree tree, Void nothing) {
            if (tree != null && BARRED.contains(tree.getKind())) {
                say("the source has " + tree.getKind() + ": " + tree);
            }
            return super.scan(tree, nothing);
        }

        @Override
        public Void visitClass(ClassTree tree, Void nothing) {
            Element c = here();
            fields.put(c, 0);
            boolean outermost = getCurrentPath().getParentPath().getLeaf() instanceof CompilationUnitTree;
            boolean inside = getCurrentPath().getParentPath().getLeaf() instanceof ClassTree;
            if (!outermost && (!inside || !c.getModifiers().contains(Modifier.STATIC))) {
                say(place() + "a class inside that is not static, or is local");
            }
            return super.visitClass(tree, nothing);
        }

        @Override
        public Void visitBlock(BlockTree tree, Void nothing) {
            if (getCurrentPath().getParentPath().getLeaf() instanceof ClassTree) {
                say(place() + "an initialiser block");
            }
            return super.visitBlock(tree, nothing);
        }

        @Override
        public Void visitMethod(MethodTree tree, Void nothing) {
            calls.put(here(), new LinkedHashSet<>());
            if (tree.getParameters().size() > MOST_PARAMETERS) {
                say(place() + named(here()) + " takes " + tree.getParameters().size() + " parameters");
            }
            CompilationUnitTree unit = getCurrentPath().getCompilationUnit();
            LineMap lines = unit.getLineMap();
            SourcePositions at = trees.getSourcePositions();
            long last = at.getEndPosition(unit, tree);
            long rows = last < 0 ? 0 : lines.getLineNumber(last) - lines.getLineNumber(at.getStartPosition(unit, tree)) + 1;
            if (rows > MOST_ROWS) {
                say(place() + named(here()) + " has " + rows + " lines");
            }
            return super.visitMethod(tree, nothing);
        }

        @Override
        public Void visitVariable(VariableTree tree, Void nothing) {
            Element v = here();
            String type = v.asType().toString();
            if (!TYPES.contains(type) && !type.replace("[]", "").matches("FairLabels\\.\\w+")) {
                say(place() + "a variable of type " + type);
            }
            if (v.getKind() == ElementKind.FIELD) {
                boolean isStatic = v.getModifiers().contains(Modifier.STATIC);
                if (isStatic && (!v.getModifiers().contains(Modifier.FINAL) || !STATIC_TYPES.contains(type))) {
                    say(place() + "a static field that is no constant");
                }
                fields.merge(v.getEnclosingElement(), isStatic ? 0 : 1, Integer::sum);
            }
            return super.visitVariable(tree, nothing);
        }

        private void noteCall(Element callee) {
            Element caller = method();
            if (!isOwn(callee)) {
                if (!LIBRARY.contains(named(callee))) {
                    say(place() + "the library's " + named(callee));
                }
            } else if (caller != null) {
                calls.get(caller).add(callee);
            }
        }

        @Override
        public Void visitMethodInvocation(MethodInvocationTree tree, Void nothing) {
            noteCall(here());
            return super.visitMethodInvocation(tree, nothing);
        }

        /** Nothing is made while a call is answered. */
        private void noteMaking() {
            Element m = method();
            if (m != null && m.getKind() != ElementKind.CONSTRUCTOR) {
                say(place() + named(m) + " makes an object");
            }
        }

        @Override
        public Void visitNewClass(NewClassTree tree, Void nothing) {
            noteMaking();
            noteCall(here());
            if (tree.getClassBody() != null) {
                say(place() + "a class without a name");
            }
            return super.visitNewClass(tree, nothing);
        }

        @Override
        public Void visitNewArray(NewArrayTree tree, Void nothing) {
            noteMaking();
            return super.visitNewArray(tree, nothing);
        }

        private void noteChange(Tree changed) {
            if (changed instanceof ArrayAccessTree access) {
                Element row = element(access.getExpression());
                if (row != null && row.getModifiers().contains(Modifier.STATIC)) {
                    say(place() + "a constant row is changed");
                }
            }
        }

        @Override
        public Void visitAssignment(AssignmentTree tree, Void nothing) {
            noteChange(tree.getVariable());
            return super.visitAssignment(tree, nothing);
        }

        @Override
        public Void visitCompoundAssignment(CompoundAssignmentTree tree, Void nothing) {
            noteChange(tree.getVariable());
            return super.visitCompoundAssignment(tree, nothing);
        }

        @Override
        public Void visitUnary(UnaryTree tree, Void nothing) {
            noteChange(tree.getExpression());
            return super.visitUnary(tree, nothing);
        }

        void lookAtClasses() {
            if (fields.size() > MOST_CLASSES || fields.size() < 2) {
                say("there are " + fields.size() + " classes");
            }
            fields.forEach((c, many) -> {
                if (many > MOST_FIELDS) {
                    say(c + " has " + many + " fields");
                }
            });
        }

        void lookAtCalls() {
            Set<String> recursive = new TreeSet<>();
            int deepest = 0;
            for (Element m : calls.keySet()) {
                if (reached(m).contains(m)) {
                    recursive.add(named(m));
                    if (!m.getModifiers().contains(Modifier.PRIVATE)) {
                        say(named(m) + " calls itself and is not private");
                    }
                }
                deepest = Math.max(deepest, depth(m));
                if (depth(m) > MOST_DEPTH) {
                    say(named(m) + " goes " + depth(m) + " deep");
                }
            }
            if (!recursive.equals(RECURSION)) {
                say("methods that come back to themselves: " + recursive);
            }
            System.out.println(calls.size() + " methods, calls " + deepest + " deep at most");
        }

        private Set<Element> reached(Element from) {
            Set<Element> met = new HashSet<>();
            Set<Element> fresh = new HashSet<>(calls.getOrDefault(from, Set.of()));
            while (!fresh.isEmpty()) {
                met.addAll(fresh);
                Set<Element> next = new HashSet<>();
                for (Element m : fresh) {
                    next.addAll(calls.getOrDefault(m, Set.of()));
                }
                next.removeAll(met);
                fresh = next;
            }
            return met;
        }

        /** How many calls stand open at most; methods that call one another count once each. */
        private int depth(Element m) {
            Integer known = depths.get(m);
            if (known != null) {
                return known;
            }
            Set<Element> circle = new HashSet<>(Set.of(m));
            for (Element other : reached(m)) {
                if (reached(other).contains(m)) {
                    circle.add(other);
                }
            }
            int below = 0;
            for (Element member : circle) {
                for (Element callee : calls.getOrDefault(member, Set.of())) {
                    if (!circle.contains(callee)) {
                        below = Math.max(below, depth(callee));
                    }
                }
            }
            depths.put(m, circle.size() + below);
            return circle.size() + below;
        }
    }
}

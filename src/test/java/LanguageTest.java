import com.sun.source.tree.ArrayAccessTree;
import com.sun.source.tree.AssertTree;
import com.sun.source.tree.AssignmentTree;
import com.sun.source.tree.BinaryTree;
import com.sun.source.tree.ClassTree;
import com.sun.source.tree.CompilationUnitTree;
import com.sun.source.tree.CompoundAssignmentTree;
import com.sun.source.tree.DoWhileLoopTree;
import com.sun.source.tree.ExpressionTree;
import com.sun.source.tree.ForLoopTree;
import com.sun.source.tree.ImportTree;
import com.sun.source.tree.LambdaExpressionTree;
import com.sun.source.tree.MemberReferenceTree;
import com.sun.source.tree.MethodInvocationTree;
import com.sun.source.tree.MethodTree;
import com.sun.source.tree.NewArrayTree;
import com.sun.source.tree.NewClassTree;
import com.sun.source.tree.SynchronizedTree;
import com.sun.source.tree.ThrowTree;
import com.sun.source.tree.Tree;
import com.sun.source.tree.TryTree;
import com.sun.source.tree.UnaryTree;
import com.sun.source.tree.VariableTree;
import com.sun.source.tree.WhileLoopTree;
import com.sun.source.util.JavacTask;
import com.sun.source.util.TreePath;
import com.sun.source.util.TreePathScanner;
import com.sun.source.util.Trees;
import java.io.File;
import java.io.IOException;
import java.nio.file.Files;
import java.nio.file.Path;
import java.util.ArrayList;
import java.util.HashMap;
import java.util.HashSet;
import java.util.LinkedHashMap;
import java.util.LinkedHashSet;
import java.util.List;
import java.util.Map;
import java.util.Set;
import java.util.TreeSet;
import java.util.regex.Pattern;
import javax.lang.model.element.Element;
import javax.lang.model.element.Modifier;
import javax.lang.model.type.TypeMirror;
import javax.tools.JavaCompiler;
import javax.tools.StandardJavaFileManager;
import javax.tools.ToolProvider;

/** Those rules of LANGUAGE.md that can be counted in the text of FastPlane. */
public final class LanguageTest {
    private static final Set<String> FACE = new TreeSet<>(List.of(("NONE feed end machine treaty fault mm clash breaks"
        + " mend unlike change estimate show untell later moves cost pays over leave bounds land pump plan move soonest"
        + " airline hold lapse shared maker stage grant safe bears should about").split(" ")));
    private static final Set<String> IMPORTS = Set.of("java.util.Arrays", "java.util.ArrayList", "java.util.List",
        "java.util.Iterator");
    private static final Map<String, Set<String>> LIBRARY = Map.of(
        "String", names("length charAt isEmpty equals indexOf substring toCharArray <init>"),
        "StringBuilder", names("<init> append charAt setCharAt setLength deleteCharAt reverse length toString"),
        "ArrayList", names("<init> add get set remove size isEmpty clear"),
        "List", names("add get set remove size isEmpty clear of"),
        "Arrays", names("copyOf copyOfRange fill"),
        "System", names("arraycopy"),
        "Object", names("<init> clone"));
    private static final Set<String> STATICS = Set.of("Integer", "Long", "Math");
    private static final String NUMBER = "(int|long|short|byte|char|double|float)";
    private static final String OWN = "FastPlane(\\.\\w+)?";
    private static final Pattern TYPES = Pattern.compile("void|(" + NUMBER + "|boolean|" + OWN + ")(\\[\\])?|" + NUMBER
        + "\\[\\]\\[\\]|java\\.lang\\.(String|StringBuilder|Integer)|java\\.util\\.(ArrayList|List)<("
        + OWN + "|java\\.lang\\.Integer)>");
    private static final Pattern STATIC_TYPES = Pattern.compile("int|long|boolean|char|java\\.lang\\.String");
    private static final Pattern STATIC_ROWS = Pattern.compile("(int|long|char|byte)\\[\\]");
    private static final Pattern COMPARED_BY_EQUALS = Pattern.compile("java\\.lang\\.(String|Integer)");
    // "Some twelve", "some twenty" and "some sixty" leave a few more.
    private static final int MOST_DEEP = 8;
    private static final int MOST_LINES = 64;
    private static final int MOST_CLASSES = 14;
    private static final int MOST_FIELDS = 22;
    private static final int MOST_PARAMETERS = 7;

    private static int wrong = 0;

    private static Set<String> names(String all) {
        return Set.of(all.split(" "));
    }

    private static void broken(int rule, String what) {
        wrong++;
        System.out.println("LanguageTest: rule " + rule + ": " + what);
    }

    public static void main(String[] args) throws IOException {
        Path root = Path.of(args.length > 0 ? args[0] : ".");
        File source = root.resolve("src/main/java/FastPlane.java").toFile();
        for (byte sign : Files.readAllBytes(source.toPath())) {
            if (sign <= 0) {
                broken(4, "a sign above 127");
            }
        }
        JavaCompiler compiler = ToolProvider.getSystemJavaCompiler();
        StandardJavaFileManager files = compiler.getStandardFileManager(null, null, null);
        JavacTask task = (JavacTask) compiler.getTask(null, files, null, List.of("-proc:none"), null,
            files.getJavaFileObjects(source));
        CompilationUnitTree unit = task.parse().iterator().next();
        task.analyze();
        Rules rules = new Rules(unit, Trees.instance(task));
        rules.scan(unit, null);
        rules.end();
        System.out.println("LanguageTest: " + rules.classes + " classes, " + rules.calls.size() + " methods, calls "
            + rules.deepest() + " deep " + rules.longest + ", " + wrong + " wrong");
        if (wrong > 0) {
            System.exit(1);
        }
    }

    private static final class Rules extends TreePathScanner<Void, Void> {
        private final CompilationUnitTree unit;
        private final Trees trees;
        private final Set<String> face = new TreeSet<>();
        final Map<Element, Set<Element>> calls = new LinkedHashMap<>();
        private Element method;
        int classes;

        Rules(CompilationUnitTree unit, Trees trees) {
            this.unit = unit;
            this.trees = trees;
        }

        private Element element() {
            return trees.getElement(getCurrentPath());
        }

        private long line(long position) {
            return unit.getLineMap().getLineNumber(position);
        }

        private String where(Tree tree) {
            return "line " + line(trees.getSourcePositions().getStartPosition(unit, tree));
        }

        @Override
        public Void visitImport(ImportTree tree, Void none) {
            if (!IMPORTS.contains(tree.getQualifiedIdentifier().toString())) {
                broken(4, tree.toString());
            }
            return null;
        }

        @Override
        public Void visitClass(ClassTree tree, Void none) {
            classes++;
            Set<Modifier> modifiers = tree.getModifiers().getFlags();
            boolean outer = getCurrentPath().getParentPath().getLeaf() == unit;
            if (tree.getSimpleName().length() == 0 || !outer && !modifiers.contains(Modifier.STATIC)) {
                broken(2, "a class that isn't static, " + where(tree));
            }
            if (!outer && (modifiers.contains(Modifier.PUBLIC) || modifiers.contains(Modifier.PROTECTED))) {
                broken(1, "a public class inside, " + where(tree));
            }
            long fields = tree.getMembers().stream().filter(m -> m instanceof VariableTree v
                && !v.getModifiers().getFlags().contains(Modifier.STATIC)).count();
            if (fields > MOST_FIELDS) {
                broken(11, fields + " fields in " + tree.getSimpleName());
            }
            for (Tree member : tree.getMembers()) {
                if (outer) {
                    outerMember(member);
                }
                if (member instanceof VariableTree field) {
                    staticField(field);
                }
                if (member.getKind() == Tree.Kind.BLOCK) {
                    broken(5, "an initialiser block, " + where(member));
                }
            }
            return super.visitClass(tree, none);
        }

        private void outerMember(Tree member) {
            if (member instanceof ClassTree) {
                return;
            }
            boolean isMethod = member instanceof MethodTree;
            Set<Modifier> modifiers = isMethod ? ((MethodTree) member).getModifiers().getFlags()
                : ((VariableTree) member).getModifiers().getFlags();
            String name = isMethod ? ((MethodTree) member).getName().toString()
                : ((VariableTree) member).getName().toString();
            if (modifiers.contains(Modifier.PUBLIC)) {
                if (!name.equals("<init>")) {
                    face.add(name);
                }
            } else if (!modifiers.contains(Modifier.PRIVATE)) {
                broken(1, name + " is neither public nor private");
            }
        }

        private void staticField(VariableTree field) {
            Set<Modifier> modifiers = field.getModifiers().getFlags();
            if (!modifiers.contains(Modifier.STATIC)) {
                return;
            }
            if (!modifiers.contains(Modifier.FINAL)) {
                broken(5, field.getName() + " is not final");
            }
            String type = String.valueOf(typeOf(field.getType()));
            boolean writtenOut = field.getInitializer() instanceof NewArrayTree row && row.getInitializers() != null;
            if (!STATIC_TYPES.matcher(type).matches() && !(STATIC_ROWS.matcher(type).matches() && writtenOut)) {
                broken(5, field.getName() + " is of the type " + type);
            }
        }

        private TypeMirror typeOf(Tree tree) {
            return trees.getTypeMirror(TreePath.getPath(unit, tree));
        }

        private void type(Tree tree, String what) {
            String type = tree == null ? "void" : String.valueOf(typeOf(tree));
            if (!TYPES.matcher(type).matches()) {
                broken(3, what + " is of the type " + type);
            }
        }

        @Override
        public Void visitVariable(VariableTree tree, Void none) {
            type(tree.getType(), tree.getName().toString());
            return super.visitVariable(tree, none);
        }

        @Override
        public Void visitAssignment(AssignmentTree tree, Void none) {
            changed(tree.getVariable());
            return super.visitAssignment(tree, none);
        }

        @Override
        public Void visitUnary(UnaryTree tree, Void none) {
            switch (tree.getKind()) {
                case PREFIX_INCREMENT, PREFIX_DECREMENT, POSTFIX_INCREMENT, POSTFIX_DECREMENT -> changed(tree.getExpression());
                default -> { }
            }
            return super.visitUnary(tree, none);
        }

        private void changed(ExpressionTree variable) {
            if (variable instanceof ArrayAccessTree place) {
                Element row = trees.getElement(TreePath.getPath(unit, place.getExpression()));
                if (row != null && row.getModifiers().contains(Modifier.STATIC)) {
                    broken(5, row + " is changed, " + where(variable));
                }
            }
        }

        @Override
        public Void visitWhileLoop(WhileLoopTree tree, Void none) {
            loop(tree.getCondition(), tree);
            return super.visitWhileLoop(tree, none);
        }

        @Override
        public Void visitDoWhileLoop(DoWhileLoopTree tree, Void none) {
            loop(tree.getCondition(), tree);
            return super.visitDoWhileLoop(tree, none);
        }

        @Override
        public Void visitForLoop(ForLoopTree tree, Void none) {
            loop(tree.getCondition(), tree);
            return super.visitForLoop(tree, none);
        }

        private void loop(ExpressionTree condition, Tree tree) {
            String shown = String.valueOf(condition);
            if (condition == null || shown.equals("true") || shown.equals("(true)")) {
                broken(9, "a loop without an end, " + where(tree));
            }
        }

        @Override
        public Void visitMethod(MethodTree tree, Void none) {
            method = element();
            calls.computeIfAbsent(method, m -> new LinkedHashSet<>());
            boolean hidden = tree.getModifiers().getFlags().contains(Modifier.PRIVATE);
            if (hidden && FACE.contains(tree.getName().toString())) {
                broken(1, "a private method has the name " + tree.getName());
            }
            type(tree.getReturnType(), tree.getName().toString());
            if (tree.getParameters().size() > MOST_PARAMETERS) {
                broken(11, "too many parameters, " + where(tree));
            }
            long first = line(trees.getSourcePositions().getStartPosition(unit, tree));
            long last = line(trees.getSourcePositions().getEndPosition(unit, tree));
            if (last - first + 1 > MOST_LINES) {
                broken(11, "a long method, " + where(tree));
            }
            return super.visitMethod(tree, none);
        }

        @Override
        public Void visitMethodInvocation(MethodInvocationTree tree, Void none) {
            call(element(), tree);
            return super.visitMethodInvocation(tree, none);
        }

        @Override
        public Void visitNewClass(NewClassTree tree, Void none) {
            call(element(), tree);
            return super.visitNewClass(tree, none);
        }

        private void call(Element called, Tree tree) {
            String owner = called.getEnclosingElement().toString();
            if (owner.startsWith("FastPlane")) {
                if (method != null) {
                    calls.get(method).add(called);
                }
                return;
            }
            String type = called.getEnclosingElement().getSimpleName().toString();
            String name = called.getSimpleName().toString();
            boolean known = LIBRARY.getOrDefault(type, Set.of()).contains(name);
            boolean plain = STATICS.contains(type) && called.getModifiers().contains(Modifier.STATIC)
                && !name.endsWith("Exact");
            if (!known && !plain) {
                broken(4, type + "." + name + ", " + where(tree));
            }
        }

        private boolean isText(Tree tree) {
            TypeMirror type = trees.getTypeMirror(new TreePath(getCurrentPath(), tree));
            return type != null && type.toString().equals("java.lang.String");
        }

        private boolean comparedByEquals(Tree tree) {
            return COMPARED_BY_EQUALS.matcher(String.valueOf(typeOf(tree))).matches();
        }

        @Override
        public Void visitBinary(BinaryTree tree, Void none) {
            if (tree.getKind() == Tree.Kind.PLUS && (isText(tree.getLeftOperand()) || isText(tree.getRightOperand()))) {
                broken(10, "texts joined by +, " + where(tree));
            }
            boolean same = tree.getKind() == Tree.Kind.EQUAL_TO || tree.getKind() == Tree.Kind.NOT_EQUAL_TO;
            if (same && comparedByEquals(tree.getLeftOperand()) && comparedByEquals(tree.getRightOperand())) {
                broken(6, "two texts or Integers by ==, " + where(tree));
            }
            return super.visitBinary(tree, none);
        }

        @Override
        public Void visitCompoundAssignment(CompoundAssignmentTree tree, Void none) {
            if (isText(tree.getVariable())) {
                broken(10, "texts joined by +=, " + where(tree));
            }
            changed(tree.getVariable());
            return super.visitCompoundAssignment(tree, none);
        }

        @Override
        public Void visitLambdaExpression(LambdaExpressionTree tree, Void none) {
            broken(2, "a lambda, " + where(tree));
            return null;
        }

        @Override
        public Void visitMemberReference(MemberReferenceTree tree, Void none) {
            broken(2, "a method reference, " + where(tree));
            return null;
        }

        @Override
        public Void visitThrow(ThrowTree tree, Void none) {
            broken(6, "throw, " + where(tree));
            return null;
        }

        @Override
        public Void visitTry(TryTree tree, Void none) {
            broken(6, "try, " + where(tree));
            return null;
        }

        @Override
        public Void visitAssert(AssertTree tree, Void none) {
            broken(6, "assert, " + where(tree));
            return null;
        }

        @Override
        public Void visitSynchronized(SynchronizedTree tree, Void none) {
            broken(6, "synchronized, " + where(tree));
            return null;
        }

        void end() {
            if (!face.equals(new TreeSet<>(FACE))) {
                broken(1, "the face is " + face);
            }
            if (classes > MOST_CLASSES) {
                broken(11, classes + " classes");
            }
            if (deepest() > MOST_DEEP) {
                broken(11, "calls go " + deepest() + " deep: " + longest);
            }
            for (Element from : calls.keySet()) {
                if (reach(from).contains(from) && !from.getModifiers().contains(Modifier.PRIVATE)) {
                    broken(8, from + " calls itself and is not private");
                }
            }
        }

        private List<String> longest = List.of();

        /** The most calls that are open at once, those that call one another counted as one. */
        int deepest() {
            Map<Element, List<String>> known = new HashMap<>();
            for (Element from : calls.keySet()) {
                List<String> way = way(from, known, new HashSet<>());
                if (way.size() > longest.size()) {
                    longest = way;
                }
            }
            return longest.size();
        }

        private List<String> way(Element from, Map<Element, List<String>> known, Set<Element> open) {
            if (known.containsKey(from)) {
                return known.get(from);
            }
            open.add(from);
            Set<Element> ring = new LinkedHashSet<>();
            ring.add(from);
            for (Element other : reach(from)) {
                if (reach(other).contains(from)) {
                    ring.add(other);
                }
            }
            List<String> best = List.of();
            for (Element member : ring) {
                for (Element called : calls.getOrDefault(member, Set.of())) {
                    if (!ring.contains(called) && !open.contains(called)) {
                        List<String> rest = way(called, known, open);
                        best = rest.size() > best.size() ? rest : best;
                    }
                }
            }
            open.remove(from);
            List<String> way = new ArrayList<>(List.of(from.getSimpleName().toString()));
            way.addAll(best);
            known.put(from, way);
            return way;
        }

        private Set<Element> reach(Element from) {
            Set<Element> reached = new LinkedHashSet<>();
            List<Element> open = new ArrayList<>(calls.getOrDefault(from, Set.of()));
            while (!open.isEmpty()) {
                Element next = open.remove(open.size() - 1);
                if (reached.add(next)) {
                    open.addAll(calls.getOrDefault(next, Set.of()));
                }
            }
            return reached;
        }
    }
}

import com.sun.source.tree.*;
import com.sun.source.util.JavacTask;
import com.sun.source.util.TreePath;
import com.sun.source.util.TreePathScanner;
import com.sun.source.util.Trees;
import java.nio.file.Files;
import java.nio.file.Path;
import java.util.ArrayList;
import java.util.HashMap;
import java.util.List;
import java.util.Map;
import java.util.Set;
import java.util.TreeSet;
import javax.lang.model.element.Element;
import javax.lang.model.element.ElementKind;
import javax.lang.model.element.Modifier;
import javax.lang.model.element.VariableElement;
import javax.tools.JavaCompiler;
import javax.tools.ToolProvider;

/**
 * The rules of ../shared/LANGUAGE.md, looked for in the tree that the compiler makes of the class; run
 * from the project's root. Where a rule leaves more than the class uses, some of that is refused here.
 */
public final class LanguageTest {
    static final String FACE = "about(int,int) alter(int,int,int) at(int,int,int,int) change(int) check() count(int) "
        + "edit(int,int,int,int,int,int) fits(int) go(int) goBack() hand(int,boolean) holds(int,int) inLine(int) "
        + "inWork(int) keep() leave(int) line(int,int) log(int,int) odds(int,int) pair(int,int) queue(int) revert(int) "
        + "size(int) test(int,int,int,int) touches(int,int) tries(int,int)";
    static final Set<String> CONSTANTS = Set.of("NONE", "BAD", "STATE", "FULL");
    static final Set<String> LIBRARY = Set.of("java.lang.System.arraycopy", "java.lang.Math.min", "java.lang.Math.max",
        "java.lang.Math.abs", "java.lang.Math.floorMod", "java.lang.Math.floorDiv", "java.lang.Object.<init>");
    static final Set<String> TYPES = Set.of("int", "long", "boolean", "void", "int[]", "long[]");
    /** The only classes that reach an array: they look at each index first. */
    static final Set<String> HOLDERS = Set.of("Cells", "Book");

    static int wrong = 0;

    static void breach(String rule, String what) {
        wrong++;
        System.out.println("rule " + rule + ": " + what);
    }

    static void atMost(String rule, int bound, int number) {
        if (number > bound) breach(rule, number + " for at most " + bound);
    }

    /** Goes over the class once and notes which method calls which. */
    static final class Walk extends TreePathScanner<Void, Void> {
        final Trees trees;
        final LineMap lines;
        final CompilationUnitTree unit;
        final Map<String, Set<String>> calls = new HashMap<>();
        final Set<String> face = new TreeSet<>();
        int classes = 0;

        Walk(Trees trees, CompilationUnitTree unit) {
            this.trees = trees;
            this.unit = unit;
            lines = unit.getLineMap();
        }

        String at(Tree tree) {
            return "line " + lines.getLineNumber(trees.getSourcePositions().getStartPosition(unit, tree)) + ", "
                + tree.toString().lines().filter(l -> !l.isBlank()).findFirst().orElse("");
        }

        <T> T enclosing(Class<T> kind) {
            for (TreePath p = getCurrentPath().getParentPath(); p != null; p = p.getParentPath()) {
                if (kind.isInstance(p.getLeaf())) return kind.cast(p.getLeaf());
            }
            return null;
        }

        boolean isInConstructor() {
            MethodTree method = enclosing(MethodTree.class);
            return method == null || method.getReturnType() == null;
        }

        static boolean isOuter(ClassTree c) { return c.getSimpleName().contentEquals("MergeLine"); }

        @Override public Void visitImport(ImportTree t, Void v) {
            breach("4", at(t));
            return super.visitImport(t, v);
        }

        @Override public Void visitPackage(PackageTree t, Void v) {
            breach("1", at(t));
            return super.visitPackage(t, v);
        }

        @Override public Void visitClass(ClassTree t, Void v) {
            classes++;
            Set<Modifier> is = t.getModifiers().getFlags();
            if (isOuter(t)) {
                if (!is.equals(Set.of(Modifier.PUBLIC, Modifier.FINAL))) breach("1", at(t));
            } else {
                if (!(getCurrentPath().getParentPath().getLeaf() instanceof ClassTree)) breach("2, local", at(t));
                if (!is.contains(Modifier.STATIC) || is.contains(Modifier.PUBLIC) || is.contains(Modifier.PROTECTED)) {
                    breach("1, 2", at(t));
                }
            }
            int fields = 0;
            for (Tree member : t.getMembers()) {
                if (member instanceof BlockTree) breach("5, a block", at(member));
                if (member instanceof VariableTree f && !f.getModifiers().getFlags().contains(Modifier.STATIC)) fields++;
            }
            atMost("11, fields of " + t.getSimpleName(), 20, fields);
            return super.visitClass(t, v);
        }

        @Override public Void visitMethod(MethodTree t, Void v) {
            ClassTree in = enclosing(ClassTree.class);
            Set<Modifier> is = t.getModifiers().getFlags();
            String name = t.getName().toString();
            List<String> types = new ArrayList<>();
            for (VariableTree p : t.getParameters()) types.add(p.getType().toString());
            if (isOuter(in) && t.getReturnType() != null) {
                if (is.contains(Modifier.PUBLIC) && !t.getReturnType().toString().equals("int")) breach("1", at(t));
                if (is.contains(Modifier.PUBLIC)) face.add(name + "(" + String.join(",", types) + ")");
                else if (!is.contains(Modifier.PRIVATE)) breach("1", at(t));
            }
            if (!is.contains(Modifier.PUBLIC) && (" " + FACE).contains(" " + name + "(")) breach("1, the name", at(t));
            if (!isOuter(in) && is.contains(Modifier.PUBLIC)) breach("1", at(t));
            if (Set.of("equals", "hashCode", "toString", "finalize", "clone").contains(name)) breach("6", at(t));
            if (!t.getThrows().isEmpty()) breach("6", at(t));
            atMost("11, parameters of " + name, 7, types.size());
            String text = t.getBody() == null ? "" : t.getBody().toString();
            atMost("11, lines of " + name, 60, (int) text.lines().count());
            calls.computeIfAbsent(nameOf(trees.getElement(getCurrentPath())), k -> new TreeSet<>());
            return super.visitMethod(t, v);
        }

        @Override public Void visitVariable(VariableTree t, Void v) {
            Element e = trees.getElement(getCurrentPath());
            Set<Modifier> is = t.getModifiers().getFlags();
            if (e.getKind() == ElementKind.FIELD) {
                boolean isConstant = e instanceof VariableElement f && f.getConstantValue() != null;
                if (is.contains(Modifier.STATIC) && !isConstant) breach("5", at(t));
                boolean isFace = isOuter(enclosing(ClassTree.class)) && CONSTANTS.contains(t.getName().toString());
                if (is.contains(Modifier.PUBLIC) != isFace || !isFace && !is.contains(Modifier.PRIVATE)) breach("1", at(t));
            }
            String type = e.asType().toString();
            if (!TYPES.contains(type) && !type.startsWith("MergeLine")) breach("3", type + " in " + at(t));
            return super.visitVariable(t, v);
        }

        static String nameOf(Element e) { return e.getEnclosingElement() + "." + e.getSimpleName() + e.asType(); }

        void call(Tree t, Element e) {
            String owner = e.getEnclosingElement().toString();
            if (!owner.startsWith("MergeLine") && !LIBRARY.contains(owner + "." + e.getSimpleName())) breach("4", at(t));
            MethodTree from = enclosing(MethodTree.class);
            if (from == null) return;
            TreePath p = getCurrentPath();
            while (p.getLeaf() != from) p = p.getParentPath();
            calls.computeIfAbsent(nameOf(trees.getElement(p)), k -> new TreeSet<>()).add(nameOf(e));
        }

        @Override public Void visitMethodInvocation(MethodInvocationTree t, Void v) {
            call(t, trees.getElement(getCurrentPath()));
            return super.visitMethodInvocation(t, v);
        }

        @Override public Void visitNewClass(NewClassTree t, Void v) {
            if (t.getClassBody() != null) breach("2", at(t));
            if (!isInConstructor()) breach("12", at(t));
            call(t, trees.getElement(getCurrentPath()));
            return super.visitNewClass(t, v);
        }

        @Override public Void visitNewArray(NewArrayTree t, Void v) {
            if (!isInConstructor()) breach("12", at(t));
            return super.visitNewArray(t, v);
        }

        @Override public Void visitArrayAccess(ArrayAccessTree t, Void v) {
            if (!HOLDERS.contains(enclosing(ClassTree.class).getSimpleName().toString())) breach("7, an index", at(t));
            return super.visitArrayAccess(t, v);
        }

        @Override public Void visitBinary(BinaryTree t, Void v) {
            if (t.getKind() == Tree.Kind.DIVIDE || t.getKind() == Tree.Kind.REMAINDER) divisor(t.getRightOperand(), t);
            return super.visitBinary(t, v);
        }

        @Override public Void visitCompoundAssignment(CompoundAssignmentTree t, Void v) {
            boolean divides = t.getKind() == Tree.Kind.DIVIDE_ASSIGNMENT || t.getKind() == Tree.Kind.REMAINDER_ASSIGNMENT;
            if (divides) divisor(t.getExpression(), t);
            return super.visitCompoundAssignment(t, v);
        }

        /** A divisor is a constant, or is looked at in the same && that divides. */
        void divisor(ExpressionTree by, Tree t) {
            Element e = trees.getElement(new TreePath(getCurrentPath(), by));
            if (by instanceof LiteralTree || e instanceof VariableElement f && f.getConstantValue() != null) return;
            for (TreePath p = getCurrentPath(); p != null; p = p.getParentPath()) {
                boolean isAnd = p.getLeaf().getKind() == Tree.Kind.CONDITIONAL_AND;
                if (isAnd && ((BinaryTree) p.getLeaf()).getLeftOperand().toString().equals(by + " > 0")) return;
            }
            breach("7, a divisor", at(t));
        }

        @Override public Void visitForLoop(ForLoopTree t, Void v) {
            boolean bound = t.getCondition() != null && t.getCondition().toString().contains("<") && !t.getUpdate().isEmpty();
            if (!bound) breach("9", at(t));
            return super.visitForLoop(t, v);
        }

        @Override public Void scan(Tree t, Void v) {
            if (t != null) {
                switch (t.getKind()) {
                    case WHILE_LOOP: case DO_WHILE_LOOP: breach("9, no counter", at(t)); break;
                    case LAMBDA_EXPRESSION: case MEMBER_REFERENCE: breach("2", at(t)); break;
                    case THROW: case TRY: case SYNCHRONIZED: case ASSERT: breach("6", at(t)); break;
                    case INSTANCE_OF: case TYPE_CAST: breach("6, a cast", at(t)); break;
                    case STRING_LITERAL: case NULL_LITERAL: breach("3, 7", at(t)); break;
                    default: break;
                }
            }
            return super.scan(t, v);
        }

        /** How many calls stand open at most from a method on, the library's own among them. */
        int depth(String method, List<String> open) {
            if (open.contains(method)) {
                breach("8, recursion", method);
                return 0;
            }
            open.add(method);
            int most = 0;
            for (String next : calls.getOrDefault(method, Set.of())) most = Math.max(most, depth(next, open));
            open.remove(method);
            return most + 1;
        }
    }

    public static void main(String[] args) throws Exception {
        Path file = Path.of("src/main/java/MergeLine.java");
        String text = Files.readString(file);
        for (int i = 0; i < text.length(); i++) if (text.charAt(i) > 126) breach("4, a sign", text.substring(i, i + 1));
        JavaCompiler compiler = ToolProvider.getSystemJavaCompiler();
        var manager = compiler.getStandardFileManager(null, null, null);
        var task = (JavacTask) compiler.getTask(null, manager, null, List.of("-proc:none"), null, manager.getJavaFileObjects(file));
        CompilationUnitTree unit = task.parse().iterator().next();
        task.analyze();
        Walk walk = new Walk(Trees.instance(task), unit);
        walk.scan(unit, null);
        if (!String.join(" ", walk.face).equals(FACE)) breach("1, the face", String.join(" ", walk.face));
        atMost("11, classes", 12, walk.classes);
        for (String method : walk.calls.keySet()) atMost("11, calls from " + method, 8, walk.depth(method, new ArrayList<>()));
        System.out.println(wrong == 0 ? walk.calls.size() + " methods keep to the rules" : wrong + " breaches");
        if (wrong != 0) System.exit(1);
    }
}

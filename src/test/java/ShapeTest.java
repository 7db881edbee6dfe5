import com.sun.source.tree.AssignmentTree;
import com.sun.source.tree.BinaryTree;
import com.sun.source.tree.ClassTree;
import com.sun.source.tree.CompilationUnitTree;
import com.sun.source.tree.CompoundAssignmentTree;
import com.sun.source.tree.IdentifierTree;
import com.sun.source.tree.MemberSelectTree;
import com.sun.source.tree.MethodInvocationTree;
import com.sun.source.tree.MethodTree;
import com.sun.source.tree.NewArrayTree;
import com.sun.source.tree.NewClassTree;
import com.sun.source.tree.Tree;
import com.sun.source.tree.TypeCastTree;
import com.sun.source.util.JavacTask;
import com.sun.source.util.SourcePositions;
import com.sun.source.util.TreePathScanner;
import com.sun.source.util.Trees;
import java.nio.file.Path;
import java.util.LinkedHashSet;
import java.util.Map;
import java.util.Set;
import java.util.TreeMap;
import javax.lang.model.element.Element;
import javax.lang.model.element.ExecutableElement;
import javax.lang.model.element.Modifier;
import javax.lang.model.element.VariableElement;
import javax.lang.model.type.TypeKind;
import javax.lang.model.type.TypeMirror;
import javax.tools.JavaCompiler;
import javax.tools.StandardJavaFileManager;
import javax.tools.ToolProvider;

/** Those rules of ../shared/LANGUAGE.md that the compiler's tree of the program shows. */
public final class ShapeTest extends TreePathScanner<Void, Void> {
    private static final Set<String> LIBRARY = Set.of("java.lang.Math.min", "java.lang.Math.max", "java.lang.Math.abs",
        "java.lang.System.arraycopy", "java.lang.String.length", "java.lang.String.charAt", "java.lang.Object.<init>");
    private static final int MOST_LINES = 60;
    private static final int DEEPEST = 8;

    private static final Checks checks = new Checks();

    private final Trees trees;
    private final SourcePositions positions;
    private final CompilationUnitTree unit;
    private final Map<String, Set<String>> calls = new TreeMap<>();
    private String caller = "";
    private boolean inConstructor = false;

    private ShapeTest(JavacTask task, CompilationUnitTree unit) {
        this.trees = Trees.instance(task);
        this.positions = trees.getSourcePositions();
        this.unit = unit;
    }

    public static void main(String[] args) throws Exception {
        JavaCompiler compiler = ToolProvider.getSystemJavaCompiler();
        try (StandardJavaFileManager files = compiler.getStandardFileManager(null, null, null)) {
            JavacTask task = (JavacTask) compiler.getTask(null, files, null, null, null,
                files.getJavaFileObjects(Path.of("src/main/java/TeamRooms.java")));
            CompilationUnitTree unit = task.parse().iterator().next();
            task.analyze();
            ShapeTest shape = new ShapeTest(task, unit);
            shape.scan(unit, null);
            shape.depths();
        }
        checks.finish("ShapeTest");
    }

    private long line(long position) {
        return unit.getLineMap().getLineNumber(position);
    }

    private String here() {
        return " (line " + line(positions.getStartPosition(unit, getCurrentPath().getLeaf())) + ")";
    }

    private static String nameOf(ExecutableElement method) {
        return method.getEnclosingElement() + "." + method.getSimpleName();
    }

    @Override
    public Void visitMethod(MethodTree method, Void none) {
        caller = nameOf((ExecutableElement) trees.getElement(getCurrentPath()));
        inConstructor = caller.endsWith("<init>");
        checks.holds(caller + " is the only method of its name in its class", !calls.containsKey(caller));
        calls.put(caller, new LinkedHashSet<>());
        checks.holds(caller + " has at most seven parameters", method.getParameters().size() <= 7);
        long start = positions.getStartPosition(unit, method);
        // A constructor that the compiler adds has no end.
        long end = Math.max(start, positions.getEndPosition(unit, method));
        checks.holds(caller + " has at most sixty lines", line(end) - line(start) < MOST_LINES);
        return super.visitMethod(method, none);
    }

    @Override
    public Void visitMethodInvocation(MethodInvocationTree call, Void none) {
        record((ExecutableElement) trees.getElement(getCurrentPath()));
        return super.visitMethodInvocation(call, none);
    }

    @Override
    public Void visitNewClass(NewClassTree made, Void none) {
        record((ExecutableElement) trees.getElement(getCurrentPath()));
        checks.holds("objects are made in constructors alone" + here(), inConstructor);
        checks.holds("without an anonymous class" + here(), made.getClassBody() == null);
        return super.visitNewClass(made, none);
    }

    @Override
    public Void visitNewArray(NewArrayTree made, Void none) {
        checks.holds("arrays are made in constructors or written out" + here(),
            inConstructor || made.getInitializers() != null);
        return super.visitNewArray(made, none);
    }

    private void record(ExecutableElement called) {
        String name = nameOf(called);
        calls.get(caller).add(name);
        checks.holds(name + " is of the program, or LANGUAGE.md has it" + here(),
            name.startsWith("TeamRooms.") || LIBRARY.contains(name));
    }

    @Override
    public Void visitClass(ClassTree type, Void none) {
        for (Tree member : type.getMembers()) {
            Element element = trees.getElement(trees.getPath(unit, member));
            if (element instanceof VariableElement && element.getModifiers().contains(Modifier.STATIC)) {
                checks.holds(element + " is a constant", element.getModifiers().contains(Modifier.FINAL));
            }
        }
        return super.visitClass(type, none);
    }

    @Override
    public Void visitAssignment(AssignmentTree assignment, Void none) {
        checks.holds("without a change of a constant array" + here(), !isStaticElement(assignment.getVariable()));
        return super.visitAssignment(assignment, none);
    }

    @Override
    public Void visitCompoundAssignment(CompoundAssignmentTree assignment, Void none) {
        checks.holds("without a change of a constant array" + here(), !isStaticElement(assignment.getVariable()));
        return super.visitCompoundAssignment(assignment, none);
    }

    private boolean isStaticElement(Tree target) {
        if (target instanceof com.sun.source.tree.ArrayAccessTree access) {
            Element array = trees.getElement(trees.getPath(unit, access.getExpression()));
            return array != null && array.getModifiers().contains(Modifier.STATIC);
        }
        return false;
    }

    @Override
    public Void visitBinary(BinaryTree binary, Void none) {
        TypeMirror left = trees.getTypeMirror(trees.getPath(unit, binary.getLeftOperand()));
        TypeMirror right = trees.getTypeMirror(trees.getPath(unit, binary.getRightOperand()));
        for (TypeMirror side : new TypeMirror[] {left, right}) {
            checks.holds("no text is joined or compared by a sign" + here(),
                side.getKind().isPrimitive() || side.getKind() == TypeKind.NULL
                    || !side.toString().startsWith("java."));
        }
        return super.visitBinary(binary, none);
    }

    @Override
    public Void visitTypeCast(TypeCastTree cast, Void none) {
        checks.holds("only numbers are cast" + here(),
            trees.getTypeMirror(getCurrentPath()).getKind().isPrimitive());
        return super.visitTypeCast(cast, none);
    }

    @Override
    public Void visitIdentifier(IdentifierTree name, Void none) {
        if (inConstructor && name.getName().contentEquals("this")) {
            checks.holds("a constructor hands out nothing of its object" + here(),
                getCurrentPath().getParentPath().getLeaf() instanceof MemberSelectTree);
        }
        return super.visitIdentifier(name, none);
    }

    private void depths() {
        for (String method : calls.keySet()) {
            int depth = depth(method, new LinkedHashSet<>());
            checks.holds(method + " goes at most eight calls deep, not " + depth, depth <= DEEPEST);
        }
    }

    private int depth(String method, Set<String> open) {
        if (!calls.containsKey(method)) {
            return 1;
        }
        if (!open.add(method)) {
            checks.holds("no method calls itself: " + open, false);
            return 0;
        }
        int deepest = 0;
        for (String called : calls.get(method)) {
            deepest = Math.max(deepest, depth(called, open));
        }
        open.remove(method);
        return deepest + 1;
    }
}

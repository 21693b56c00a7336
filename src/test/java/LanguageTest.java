import com.sun.source.tree.BinaryTree;
import com.sun.source.tree.ClassTree;
import com.sun.source.tree.CompilationUnitTree;
import com.sun.source.tree.CompoundAssignmentTree;
import com.sun.source.tree.ExpressionTree;
import com.sun.source.tree.MethodInvocationTree;
import com.sun.source.tree.MethodTree;
import com.sun.source.tree.NewClassTree;
import com.sun.source.tree.ThrowTree;
import com.sun.source.tree.Tree;
import com.sun.source.tree.VariableTree;
import com.sun.source.util.JavacTask;
import com.sun.source.util.TreePathScanner;
import com.sun.source.util.Trees;
import java.io.File;
import java.lang.reflect.Constructor;
import java.lang.reflect.Field;
import java.lang.reflect.Method;
import java.lang.reflect.Modifier;
import java.util.ArrayList;
import java.util.Arrays;
import java.util.EnumSet;
import java.util.HashMap;
import java.util.HashSet;
import java.util.LinkedHashMap;
import java.util.List;
import java.util.Map;
import java.util.Set;
import java.util.TreeSet;
import javax.lang.model.element.Element;
import javax.lang.model.element.ElementKind;
import javax.lang.model.element.ExecutableElement;
import javax.tools.JavaCompiler;
import javax.tools.StandardJavaFileManager;
import javax.tools.ToolProvider;

/** The face of the document, and the rules of LANGUAGE.md that can be seen in the source. */
public final class LanguageTest {
    private static final Checks CHECKS = new Checks("LanguageTest");
    private static final String I = "IndexOutOfBoundsException", A = "IllegalArgumentException",
            S = "IllegalStateException";
    private static final Set<Tree.Kind> FORBIDDEN = EnumSet.of(Tree.Kind.LAMBDA_EXPRESSION,
            Tree.Kind.MEMBER_REFERENCE, Tree.Kind.TRY, Tree.Kind.CATCH, Tree.Kind.SYNCHRONIZED, Tree.Kind.ASSERT,
            Tree.Kind.INSTANCE_OF, Tree.Kind.TYPE_CAST, Tree.Kind.ANNOTATION, Tree.Kind.IMPORT);
    /** A divisor is a written number, a constant, or what was looked at right ahead of it. */
    private static final String DIVISOR = "10|[A-Z_]+|total";
    private static final Set<String> LIBRARY = Set.of("java.lang.Math.max", "java.lang.Math.min",
            "java.lang.Integer.bitCount", "java.lang.Object.<init>", "java.lang.String.<init>");
    private static final int MOST_LINES = 60, MOST_PARAMETERS = 7, MOST_DEEP = 7, MOST_CLASSES = 12, MOST_FIELDS = 20;

    private final Map<Element, Set<Element>> calls = new HashMap<>();
    private final Map<String, Integer> fields = new LinkedHashMap<>();
    private final Set<String> otherMethods = new TreeSet<>();
    private int classes;

    private LanguageTest() {
    }

    public static void main(String[] args) throws Exception {
        theFaceIsThatOfTheDocument();
        nothingElseCanBeSeen();
        new LanguageTest().readSource(new File(args[0], "src/main/java/PatchBench.java"));
        CHECKS.end();
    }

    // ---- the face

    private static final String[] FACE = {
        "int put(int int int) I A S", "int cut(int int) I", "int copy(int int) I", "int length(int) I",
        "int lineAt(int int) I", "int likeness(int int) A", "int pairOf(int int int int) I A",
        "int kept(int int int) I A", "int keptByTable(int int) I", "int make(int int int) I A S",
        "int invert(int) I S", "int join(int int) I S", "boolean depends(int int) I S",
        "int past(int int boolean) I S", "int split(int int int int boolean) I A S", "int patches()",
        "int lineIn(int boolean int) I", "int pairIn(int int) I", "int hunks(int) I", "int hunk(int int int) I A",
        "int movedTo(int int) I", "boolean areEqual(int int) I", "int distance(int int) I",
        "int putOn(int int int) I A S", "int putAt(int) I", "int merge(int int int) I S", "int conflicts(int) I",
        "int resolve(int int int) I A", "int setBase(int) I S", "int push(int) I S", "int pop() S",
        "int take(int) I S", "int swap(int) I S", "int fold(int) I", "int edit(int int int) I A S",
        "int refresh(int int) I A S", "int height()", "int nameAt(int) I", "int top(int) I", "int needs(int) I",
        "int orders() S", "int blame(int) I", "int began(int) I", "boolean setFile(int int int) I",
        "int difference(int int) I S", "int compose(int int) I S", "int wentTo(int int) I",
        "int addByte(int int) I A S", "int clear(int) I", "int byteAt(int int) I", "int delta(int int) I S",
        "int chain(int int) I S", "int sizeOf(int) I", "int step(int int) I", "int putDelta(int int int) I S"
    };

    private static void theFaceIsThatOfTheDocument() {
        Set<String> want = new TreeSet<>();
        for (String line : FACE) {
            want.add(line.replace(" I", " " + I).replace(" A", " " + A).replace(" S", " " + S));
        }
        Set<String> got = new TreeSet<>();
        for (Method method : PatchBench.class.getDeclaredMethods()) {
            if (Modifier.isPublic(method.getModifiers())) {
                StringBuilder text = new StringBuilder(method.getReturnType() + " " + method.getName() + "(");
                for (Class<?> type : method.getParameterTypes()) {
                    text.append(text.charAt(text.length() - 1) == '(' ? "" : " ").append(type);
                }
                text.append(")");
                for (Class<?> type : method.getExceptionTypes()) {
                    text.append(" ").append(type.getSimpleName());
                }
                got.add(text.toString());
            }
        }
        CHECKS.due("the public methods", got.toString(), want.toString());
        CHECKS.due("their number", got.size(), 55);
    }

    private static void nothingElseCanBeSeen() {
        Class<?> face = PatchBench.class;
        CHECKS.due("the class", Modifier.toString(face.getModifiers()), "public final");
        CHECKS.due("its package", face.getPackageName(), "");
        CHECKS.due("constructors", face.getDeclaredConstructors().length, 1);
        for (Constructor<?> constructor : face.getDeclaredConstructors()) {
            CHECKS.due("the constructor", constructor.toString(), "public PatchBench()");
        }
        List<String> seen = new ArrayList<>();
        for (Field field : face.getDeclaredFields()) {
            if (!Modifier.isPrivate(field.getModifiers())) {
                seen.add(field.getName());
            }
        }
        CHECKS.due("the constants", seen.toString(), "[NONE, LEAST, UNIQUE, RARE]");
        for (Method method : face.getDeclaredMethods()) {
            int modifiers = method.getModifiers();
            CHECKS.due(method.getName(), Modifier.isPrivate(modifiers) || Modifier.isPublic(modifiers), true);
        }
        for (Class<?> inner : face.getDeclaredClasses()) {
            boolean isHidden = Modifier.isPrivate(inner.getModifiers()) && Modifier.isStatic(inner.getModifiers());
            CHECKS.due(inner.getSimpleName() + " is private and static", isHidden, true);
        }
    }

    // ---- the source

    private void readSource(File file) throws Exception {
        JavaCompiler compiler = ToolProvider.getSystemJavaCompiler();
        StandardJavaFileManager files = compiler.getStandardFileManager(null, null, null);
        JavacTask task = (JavacTask) compiler.getTask(null, files, null, List.of("-proc:none"), null,
                files.getJavaFileObjects(file));
        CompilationUnitTree unit = task.parse().iterator().next();
        task.analyze();
        CHECKS.due("imports", unit.getImports().size(), 0);
        new Reader(unit, Trees.instance(task)).scan(unit, null);
        CHECKS.due("classes", classes <= MOST_CLASSES, true);
        for (Map.Entry<String, Integer> entry : fields.entrySet()) {
            CHECKS.due("fields of " + entry.getKey(), entry.getValue() <= MOST_FIELDS, true);
        }
        for (Method method : PatchBench.class.getDeclaredMethods()) {
            if (Modifier.isPublic(method.getModifiers())) {
                CHECKS.due("another method " + method.getName(), otherMethods.contains(method.getName()), false);
            }
        }
        int deepest = 0;
        for (Element method : calls.keySet()) {
            int depth = depthOf(method, new ArrayList<>());
            deepest = Math.max(deepest, depth);
            CHECKS.due("calls from " + method + " are not too deep (" + depth + ")", depth <= MOST_DEEP, true);
        }
        System.out.println("LanguageTest: calls go " + deepest + " deep");
    }

    /** How many methods stand open at the most when this one is called; recursion is told as very deep. */
    private int depthOf(Element method, List<Element> open) {
        if (open.contains(method)) {
            System.out.println("LanguageTest: " + method + " calls itself by " + open);
            return 1000;
        }
        open.add(method);
        int deepest = 0;
        for (Element called : calls.getOrDefault(method, Set.of())) {
            deepest = Math.max(deepest, depthOf(called, open));
        }
        open.remove(open.size() - 1);
        return deepest + 1;
    }

    private final class Reader extends TreePathScanner<Void, Void> {
        private final CompilationUnitTree unit;
        private final Trees trees;
        private Element method;
        private String className = "";

        Reader(CompilationUnitTree unit, Trees trees) {
            this.unit = unit;
            this.trees = trees;
        }

        @Override
        public Void scan(Tree tree, Void nothing) {
            if (tree != null) {
                CHECKS.due("forbidden at line " + lineOf(tree), FORBIDDEN.contains(tree.getKind()), false);
            }
            return super.scan(tree, nothing);
        }

        private long lineOf(Tree tree) {
            return unit.getLineMap().getLineNumber(Math.max(0, trees.getSourcePositions().getStartPosition(unit, tree)));
        }

        private long endOf(Tree tree) {
            return unit.getLineMap().getLineNumber(trees.getSourcePositions().getEndPosition(unit, tree));
        }

        @Override
        public Void visitClass(ClassTree tree, Void nothing) {
            classes++;
            String before = className;
            className = tree.getSimpleName().toString();
            int count = 0;
            for (Tree member : tree.getMembers()) {
                boolean isField = member instanceof VariableTree variable
                        && !variable.getModifiers().getFlags().contains(javax.lang.model.element.Modifier.STATIC);
                count += isField ? 1 : 0;
                CHECKS.due("an initialiser block in " + className, member.getKind() == Tree.Kind.BLOCK, false);
            }
            fields.put(className, count);
            super.visitClass(tree, nothing);
            className = before;
            return null;
        }

        @Override
        public Void visitVariable(VariableTree tree, Void nothing) {
            Set<javax.lang.model.element.Modifier> flags = tree.getModifiers().getFlags();
            if (flags.contains(javax.lang.model.element.Modifier.STATIC)) {
                CHECKS.due("a static field " + tree.getName() + " is a constant int",
                        flags.contains(javax.lang.model.element.Modifier.FINAL)
                                && tree.getType().toString().equals("int"), true);
            }
            return super.visitVariable(tree, nothing);
        }

        @Override
        public Void visitMethod(MethodTree tree, Void nothing) {
            method = trees.getElement(getCurrentPath());
            calls.put(method, new HashSet<>());
            String name = className + "." + tree.getName();
            boolean isPublic = tree.getModifiers().getFlags().contains(javax.lang.model.element.Modifier.PUBLIC);
            if (!isPublic) {
                otherMethods.add(tree.getName().toString());
            }
            CHECKS.due("parameters of " + name, tree.getParameters().size() <= MOST_PARAMETERS, true);
            CHECKS.due("lines of " + name, endOf(tree) - lineOf(tree) < MOST_LINES, true);
            super.visitMethod(tree, nothing);
            method = null;
            return null;
        }

        @Override
        public Void visitMethodInvocation(MethodInvocationTree tree, Void nothing) {
            note(trees.getElement(getCurrentPath()));
            return super.visitMethodInvocation(tree, nothing);
        }

        @Override
        public Void visitNewClass(NewClassTree tree, Void nothing) {
            Element made = trees.getElement(getCurrentPath());
            String type = tree.getIdentifier().toString();
            if (getCurrentPath().getParentPath().getLeaf() instanceof ThrowTree) {
                boolean isWritten = tree.getArguments().size() == 1
                        && tree.getArguments().get(0).getKind() == Tree.Kind.STRING_LITERAL;
                CHECKS.due("thrown at line " + lineOf(tree), Set.of(I, A, S).contains(type) && isWritten, true);
                CHECKS.due("no throw in a constructor", method.getKind() == ElementKind.CONSTRUCTOR, false);
            } else {
                note(made);
                boolean isEarly = method != null && (method.getKind() == ElementKind.CONSTRUCTOR
                        || method.getSimpleName().contentEquals("several"));
                CHECKS.due("made in a constructor, line " + lineOf(tree), isEarly, true);
            }
            return super.visitNewClass(tree, nothing);
        }

        private void note(Element called) {
            if (!(called instanceof ExecutableElement)) {
                return;
            }
            String owner = called.getEnclosingElement().toString();
            if (owner.startsWith("PatchBench")) {
                if (method != null) {
                    calls.get(method).add(called);
                }
            } else {
                CHECKS.due("the library may be called: " + owner + "." + called.getSimpleName(),
                        LIBRARY.contains(owner + "." + called.getSimpleName()), true);
            }
        }

        @Override
        public Void visitCompoundAssignment(CompoundAssignmentTree tree, Void nothing) {
            checkDivisor(tree, tree.getKind() == Tree.Kind.DIVIDE_ASSIGNMENT
                    || tree.getKind() == Tree.Kind.REMAINDER_ASSIGNMENT, tree.getExpression());
            return super.visitCompoundAssignment(tree, nothing);
        }

        private void checkDivisor(Tree tree, boolean isDivision, ExpressionTree divisor) {
            if (isDivision) {
                CHECKS.due("divisor at line " + lineOf(tree), divisor.toString().matches(DIVISOR), true);
            }
        }

        @Override
        public Void visitBinary(BinaryTree tree, Void nothing) {
            checkDivisor(tree, tree.getKind() == Tree.Kind.DIVIDE || tree.getKind() == Tree.Kind.REMAINDER,
                    tree.getRightOperand());
            for (ExpressionTree side : Arrays.asList(tree.getLeftOperand(), tree.getRightOperand())) {
                CHECKS.due("texts are not joined by +, line " + lineOf(tree),
                        side.getKind() == Tree.Kind.STRING_LITERAL, false);
            }
            return super.visitBinary(tree, nothing);
        }
    }
}

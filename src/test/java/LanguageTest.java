import com.sun.source.tree.ArrayTypeTree;
import com.sun.source.tree.AssertTree;
import com.sun.source.tree.BinaryTree;
import com.sun.source.tree.ClassTree;
import com.sun.source.tree.CompilationUnitTree;
import com.sun.source.tree.CompoundAssignmentTree;
import com.sun.source.tree.ImportTree;
import com.sun.source.tree.InstanceOfTree;
import com.sun.source.tree.LambdaExpressionTree;
import com.sun.source.tree.LineMap;
import com.sun.source.tree.LiteralTree;
import com.sun.source.tree.MemberReferenceTree;
import com.sun.source.tree.MethodInvocationTree;
import com.sun.source.tree.MethodTree;
import com.sun.source.tree.NewArrayTree;
import com.sun.source.tree.NewClassTree;
import com.sun.source.tree.PrimitiveTypeTree;
import com.sun.source.tree.SwitchExpressionTree;
import com.sun.source.tree.SynchronizedTree;
import com.sun.source.tree.ThrowTree;
import com.sun.source.tree.Tree;
import com.sun.source.tree.TryTree;
import com.sun.source.tree.TypeCastTree;
import com.sun.source.tree.VariableTree;
import com.sun.source.util.JavacTask;
import com.sun.source.util.TreePathScanner;
import com.sun.source.util.Trees;
import java.io.IOException;
import java.nio.file.Files;
import java.nio.file.Path;
import java.util.HashSet;
import java.util.LinkedHashMap;
import java.util.List;
import java.util.Map;
import java.util.Set;
import java.util.TreeSet;
import javax.lang.model.element.Element;
import javax.lang.model.element.Modifier;
import javax.tools.JavaCompiler;
import javax.tools.StandardJavaFileManager;
import javax.tools.ToolProvider;

/**
 * The class keeps to what of ../shared/LANGUAGE.md can be seen from its words, and makes no object but in constructors.
 * What the rules allow and the class does not use is not allowed here: who needs it adds it to the rows below.
 */
public final class LanguageTest extends TreePathScanner<Void, Void> {
    private static final Path SOURCE = Path.of("src", "main", "java", "HiddenOrLost.java");
    private static final Set<String> IMPORTS = Set.of("java.util.Arrays", "java.util.NoSuchElementException");
    private static final Set<String> LIBRARY = Set.of("java.lang.String.length", "java.lang.String.charAt", "java.lang.Integer.bitCount",
        "java.lang.Math.abs", "java.lang.Math.max", "java.lang.Math.min", "java.lang.System.arraycopy", "java.util.Arrays.fill",
        "java.lang.Object.<init>", "java.util.NoSuchElementException.<init>");
    private static final Set<String> CONSTANTS = Set.of("int", "long", "boolean", "char", "java.lang.String");
    private static final int MOST_CLASSES = 12;
    private static final int MOST_FIELDS = 20;
    private static final int MOST_LINES = 60;
    private static final int MOST_DEEP = 8;

    private final Trees trees;
    private final CompilationUnitTree unit;
    private final Map<String, Set<String>> calls = new LinkedHashMap<>();
    private final Set<String> recursive = new TreeSet<>();
    private int classes = 0;
    private MethodTree method = null;

    private LanguageTest(Trees trees, CompilationUnitTree unit) {
        this.trees = trees;
        this.unit = unit;
    }

    public static void main(String[] args) throws IOException {
        JavaCompiler compiler = ToolProvider.getSystemJavaCompiler();
        Check.same("there is a compiler", compiler != null, true);
        if (compiler != null) {
            try (StandardJavaFileManager files = compiler.getStandardFileManager(null, null, null)) {
                JavacTask task = (JavacTask) compiler.getTask(null, files, null, List.of("-proc:none"), null, files.getJavaFileObjects(SOURCE));
                CompilationUnitTree unit = task.parse().iterator().next();
                task.analyze();
                new LanguageTest(Trees.instance(task), unit).check();
            }
        }
        Check.close();
    }

    private void check() throws IOException {
        scan(unit, null);
        Check.same("rule 11, classes, " + classes, classes <= MOST_CLASSES, true);
        int deepest = 0;
        for (String caller : calls.keySet()) {
            deepest = Math.max(deepest, deep(caller, new HashSet<>()));
        }
        Check.same("rule 11, calls deep, " + deepest, deepest <= MOST_DEEP, true);
        // These carry their depth: the walk's steps, the ONES within one another.
        Check.same("rule 8, recursion", String.join(" ", recursive), "Route.walk Sentence.readAll Sentence.readCond Sentence.readOne");
        for (char sign : Files.readString(SOURCE).toCharArray()) {
            if (sign > 126) {
                Check.same("a sign of the file", sign, '?');
            }
        }
    }

    /** How many calls stand open at most, each method counted once. */
    private int deep(String caller, Set<String> open) {
        open.add(caller);
        int most = 0;
        for (String called : calls.getOrDefault(caller, Set.of())) {
            if (!open.contains(called)) {
                most = Math.max(most, deep(called, open));
            } else if (reaches(called, caller, new HashSet<>())) {
                recursive.add(called);
                recursive.add(caller);
            }
        }
        open.remove(caller);
        return most + 1;
    }

    private boolean reaches(String from, String to, Set<String> seen) {
        if (from.equals(to)) {
            return true;
        }
        boolean found = false;
        for (String called : calls.getOrDefault(from, Set.of())) {
            found |= seen.add(called) && reaches(called, to, seen);
        }
        return found;
    }

    private void is(String what, Tree at, boolean good) {
        LineMap lines = unit.getLineMap();
        long start = trees.getSourcePositions().getStartPosition(unit, at);
        Check.same(what + ", line " + (start < 0 ? 0 : lines.getLineNumber(start)), good, true);
    }

    private static String shortName(Element methodElement) {
        return methodElement.getEnclosingElement().getSimpleName() + "." + methodElement.getSimpleName();
    }

    private String typeOf(Tree at) {
        return String.valueOf(trees.getTypeMirror(trees.getPath(unit, at)));
    }

    private boolean isOwn(Element element) {
        return element != null && element.getEnclosingElement() != null && element.getEnclosingElement().toString().startsWith("HiddenOrLost");
    }

    @Override
    public Void visitImport(ImportTree at, Void none) {
        is("rule 4, import of " + at.getQualifiedIdentifier(), at, IMPORTS.contains(at.getQualifiedIdentifier().toString()));
        return super.visitImport(at, none);
    }

    @Override
    public Void visitClass(ClassTree at, Void none) {
        classes++;
        int fields = 0;
        for (Tree member : at.getMembers()) {
            boolean isField = member instanceof VariableTree;
            fields += isField && !((VariableTree) member).getModifiers().getFlags().contains(Modifier.STATIC) ? 1 : 0;
        }
        is("rule 11, " + fields + " fields of " + at.getSimpleName(), at, fields <= MOST_FIELDS);
        is("rule 2, a class of a name", at, at.getSimpleName().length() > 0 && method == null);
        return super.visitClass(at, none);
    }

    @Override
    public Void visitMethod(MethodTree at, Void none) {
        LineMap lines = unit.getLineMap();
        long from = trees.getSourcePositions().getStartPosition(unit, at);
        long to = trees.getSourcePositions().getEndPosition(unit, at);
        if (from >= 0 && to > from) {
            long n = lines.getLineNumber(to) - lines.getLineNumber(from) + 1;
            is("rule 11, " + n + " lines of " + at.getName(), at, n <= MOST_LINES);
        }
        is("rule 11, parameters of " + at.getName(), at, at.getParameters().size() <= 7);
        method = at;
        super.visitMethod(at, none);
        method = null;
        return null;
    }

    private boolean isMaking() {
        return method == null || method.getReturnType() == null;
    }

    @Override
    public Void visitVariable(VariableTree at, Void none) {
        String type = typeOf(at).replace("[]", "");
        boolean isOwnType = type.startsWith("HiddenOrLost");
        is("rule 3, type of " + at.getName(), at, isOwnType || CONSTANTS.contains(type) || type.equals("byte"));
        if (at.getModifiers().getFlags().contains(Modifier.STATIC)) {
            is("rule 5, " + at.getName(), at, at.getModifiers().getFlags().contains(Modifier.FINAL) && CONSTANTS.contains(typeOf(at))
                && (at.getInitializer() == null || !(at.getInitializer() instanceof MethodInvocationTree)));
        }
        return super.visitVariable(at, none);
    }

    @Override
    public Void visitArrayType(ArrayTypeTree at, Void none) {
        boolean isDeep = at.getType() instanceof ArrayTypeTree;
        is("rule 3, rows of rows", at, !isDeep || ((ArrayTypeTree) at.getType()).getType() instanceof PrimitiveTypeTree);
        return super.visitArrayType(at, none);
    }

    @Override
    public Void visitMethodInvocation(MethodInvocationTree at, Void none) {
        Element called = trees.getElement(trees.getPath(unit, at.getMethodSelect()));
        if (called == null) {
            is("a call of something known", at, false);
        } else if (isOwn(called)) {
            note(called);
        } else {
            String name = called.getEnclosingElement() + "." + called.getSimpleName();
            is("rule 4, " + name, at, LIBRARY.contains(name));
        }
        return super.visitMethodInvocation(at, none);
    }

    private void note(Element called) {
        if (method != null && called.getSimpleName().length() > 0) {
            String caller = shortName(trees.getElement(trees.getPath(unit, method)));
            calls.computeIfAbsent(caller, key -> new TreeSet<>()).add(shortName(called));
        }
    }

    @Override
    public Void visitNewClass(NewClassTree at, Void none) {
        Element made = trees.getElement(trees.getPath(unit, at));
        String name = made.getEnclosingElement() + "." + made.getSimpleName();
        is("rule 4, " + name, at, isOwn(made) || LIBRARY.contains(name));
        is("an object is made by a constructor alone", at, isMaking() || !isOwn(made));
        is("rule 2, no class without a name", at, at.getClassBody() == null);
        return super.visitNewClass(at, none);
    }

    @Override
    public Void visitNewArray(NewArrayTree at, Void none) {
        is("a row is made by a constructor alone", at, isMaking());
        return super.visitNewArray(at, none);
    }

    @Override
    public Void visitThrow(ThrowTree at, Void none) {
        boolean isNew = at.getExpression() instanceof NewClassTree;
        is("rule 6, what is thrown", at, isNew && typeOf(at.getExpression()).equals("java.util.NoSuchElementException"));
        is("rule 6, no constructor throws", at, !isMaking());
        return super.visitThrow(at, none);
    }

    @Override
    public Void visitBinary(BinaryTree at, Void none) {
        is("rule 10, texts joined", at, at.getKind() != Tree.Kind.PLUS || !typeOf(at).equals("java.lang.String"));
        boolean compares = at.getKind() == Tree.Kind.EQUAL_TO || at.getKind() == Tree.Kind.NOT_EQUAL_TO;
        is("rule 6, texts compared", at, !compares || !typeOf(at.getLeftOperand()).equals("java.lang.String"));
        return super.visitBinary(at, none);
    }

    @Override
    public Void visitCompoundAssignment(CompoundAssignmentTree at, Void none) {
        is("rule 10, texts joined", at, !typeOf(at.getVariable()).equals("java.lang.String"));
        return super.visitCompoundAssignment(at, none);
    }

    @Override
    public Void visitTypeCast(TypeCastTree at, Void none) {
        is("a cast of numbers alone", at, at.getType() instanceof PrimitiveTypeTree);
        return super.visitTypeCast(at, none);
    }

    @Override
    public Void visitLiteral(LiteralTree at, Void none) {
        boolean isDecimal = at.getKind() == Tree.Kind.DOUBLE_LITERAL || at.getKind() == Tree.Kind.FLOAT_LITERAL;
        is("no number with a point", at, !isDecimal);
        return super.visitLiteral(at, none);
    }

    @Override
    public Void visitInstanceOf(InstanceOfTree at, Void none) {
        is("nothing asks for a class", at, false);
        return null;
    }

    @Override
    public Void visitLambdaExpression(LambdaExpressionTree at, Void none) {
        is("rule 2, lambda", at, false);
        return null;
    }

    @Override
    public Void visitMemberReference(MemberReferenceTree at, Void none) {
        is("rule 2, method reference", at, false);
        return null;
    }

    @Override
    public Void visitTry(TryTree at, Void none) {
        is("nothing is caught", at, false);
        return null;
    }

    @Override
    public Void visitSynchronized(SynchronizedTree at, Void none) {
        is("rule 6, synchronized", at, false);
        return null;
    }

    @Override
    public Void visitAssert(AssertTree at, Void none) {
        is("rule 6, assert", at, false);
        return null;
    }

    @Override
    public Void visitSwitchExpression(SwitchExpressionTree at, Void none) {
        is("a switch that answers", at, false);
        return null;
    }
}

import com.sun.source.tree.AnnotationTree;
import com.sun.source.tree.AssertTree;
import com.sun.source.tree.BinaryTree;
import com.sun.source.tree.CaseTree;
import com.sun.source.tree.ClassTree;
import com.sun.source.tree.CompilationUnitTree;
import com.sun.source.tree.CompoundAssignmentTree;
import com.sun.source.tree.DoWhileLoopTree;
import com.sun.source.tree.ExpressionTree;
import com.sun.source.tree.ForLoopTree;
import com.sun.source.tree.ImportTree;
import com.sun.source.tree.LambdaExpressionTree;
import com.sun.source.tree.MemberReferenceTree;
import com.sun.source.tree.MethodInvocationTree;
import com.sun.source.tree.MethodTree;
import com.sun.source.tree.NewArrayTree;
import com.sun.source.tree.NewClassTree;
import com.sun.source.tree.SynchronizedTree;
import com.sun.source.tree.ThrowTree;
import com.sun.source.tree.Tree;
import com.sun.source.tree.TryTree;
import com.sun.source.tree.TypeCastTree;
import com.sun.source.tree.VariableTree;
import com.sun.source.tree.WhileLoopTree;
import com.sun.source.util.JavacTask;
import com.sun.source.util.TreePath;
import com.sun.source.util.TreePathScanner;
import com.sun.source.util.Trees;
import java.io.IOException;
import java.nio.file.Files;
import java.nio.file.Path;
import java.util.ArrayList;
import java.util.HashSet;
import java.util.LinkedHashSet;
import java.util.List;
import java.util.Map;
import java.util.Set;
import java.util.TreeMap;
import java.util.TreeSet;
import javax.lang.model.element.Element;
import javax.lang.model.element.ElementKind;
import javax.lang.model.element.ExecutableElement;
import javax.lang.model.element.Modifier;
import javax.lang.model.type.ArrayType;
import javax.lang.model.type.TypeKind;
import javax.lang.model.type.TypeMirror;
import javax.tools.JavaCompiler;
import javax.tools.StandardJavaFileManager;
import javax.tools.ToolProvider;

/**
 * The rules of ../shared/LANGUAGE.md that can be looked up in the source: javac reads it, and this
 * goes through what it read. A remark names the rule that a test holds.
 */
public final class RulesTest {
    private static final Due DUE = new Due("RulesTest");
    private static final Path SOURCE = Path.of("src/main/java/FireFromFire.java");
    private static final Seen SEEN = read();

    /** Rule 4, as far as anything of it is used; what comes to be used comes here, by the rule. */
    private static final Set<String> LIBRARY = Set.of("java.lang.String.length()",
            "java.lang.String.charAt(int)", "java.lang.String.indexOf(int)",
            "java.lang.Integer.bitCount(int)", "java.lang.Integer.compare(int,int)",
            "java.lang.Math.max(int,int)", "java.lang.Math.min(int,int)",
            "java.lang.System.arraycopy(java.lang.Object,int,java.lang.Object,int,int)");
    private static final Set<TypeKind> NUMBERS = Set.of(TypeKind.INT, TypeKind.LONG, TypeKind.SHORT,
            TypeKind.BYTE, TypeKind.CHAR);
    private static final Set<String> OF_OBJECTS = Set.of("equals", "hashCode", "toString");

    public static void main(String[] args) {
        DUE.runAll(RulesTest.class);
    }

    /** What the source has of each sort, gathered in one go. */
    private static final class Seen extends TreePathScanner<Void, Void> {
        final Trees trees;
        final CompilationUnitTree unit;
        final List<ClassTree> classes = new ArrayList<>();
        final List<String> forbidden = new ArrayList<>();
        final List<String> loops = new ArrayList<>();
        final List<String> made = new ArrayList<>();
        final Set<String> library = new TreeSet<>();
        final Map<String, TypeMirror> types = new TreeMap<>();
        final Map<ExecutableElement, MethodTree> methods = new java.util.LinkedHashMap<>();
        final Map<Element, Set<ExecutableElement>> calls = new java.util.LinkedHashMap<>();
        final Set<ExecutableElement> callsLibrary = new HashSet<>();
        private ExecutableElement inside = null;

        Seen(Trees trees, CompilationUnitTree unit) {
            this.trees = trees;
            this.unit = unit;
        }

        private String at(Tree tree) {
            long begin = trees.getSourcePositions().getStartPosition(unit, tree);
            return tree.getKind() + " at line " + unit.getLineMap().getLineNumber(begin);
        }

        private Element elementOf(Tree tree) {
            return trees.getElement(new TreePath(getCurrentPath(), tree));
        }

        private Element here() {
            return trees.getElement(getCurrentPath());
        }

        private TypeMirror typeOf(Tree tree) {
            return trees.getTypeMirror(new TreePath(getCurrentPath(), tree));
        }

        private Void refuse(Tree tree) {
            forbidden.add(at(tree));
            return null;
        }

        @Override public Void visitClass(ClassTree tree, Void none) {
            classes.add(tree);
            return super.visitClass(tree, none);
        }

        @Override public Void visitMethod(MethodTree tree, Void none) {
            ExecutableElement before = inside;
            inside = (ExecutableElement) here();
            methods.put(inside, tree);
            calls.put(inside, new LinkedHashSet<>());
            types.put(at(tree) + " " + inside, inside.getReturnType());
            super.visitMethod(tree, none);
            inside = before;
            return null;
        }

        @Override public Void visitVariable(VariableTree tree, Void none) {
            types.put(at(tree) + " " + tree.getName(), here().asType());
            return super.visitVariable(tree, none);
        }

        @Override public Void visitMethodInvocation(MethodInvocationTree tree, Void none) {
            ExecutableElement called = (ExecutableElement) elementOf(tree.getMethodSelect());
            boolean isOwn = called.getEnclosingElement().toString().startsWith("FireFromFire");
            // a constructor's super() stands in no source of ours
            boolean isSuper = called.getKind() == ElementKind.CONSTRUCTOR;
            if (isOwn && inside != null) {
                calls.get(inside).add(called);
            } else if (!isSuper) {
                library.add(called.getEnclosingElement() + "." + called);
                if (inside != null) {
                    callsLibrary.add(inside);
                }
            }
            return super.visitMethodInvocation(tree, none);
        }

        @Override public Void visitNewClass(NewClassTree tree, Void none) {
            if (tree.getClassBody() != null) {
                refuse(tree);
            }
            making(tree);
            return super.visitNewClass(tree, none);
        }

        @Override public Void visitNewArray(NewArrayTree tree, Void none) {
            making(tree);
            return super.visitNewArray(tree, none);
        }

        private void making(Tree tree) {
            if (inside != null && inside.getKind() != ElementKind.CONSTRUCTOR) {
                made.add(at(tree));
            }
        }

        @Override public Void visitForLoop(ForLoopTree tree, Void none) {
            boolean isCounted = tree.getCondition() != null && tree.getInitializer().size() == 1
                    && tree.getUpdate().size() == 1;
            if (!isCounted) {
                loops.add(at(tree));
            }
            return super.visitForLoop(tree, none);
        }

        @Override public Void visitWhileLoop(WhileLoopTree tree, Void none) {
            loops.add(at(tree));
            return super.visitWhileLoop(tree, none);
        }

        @Override public Void visitDoWhileLoop(DoWhileLoopTree tree, Void none) {
            loops.add(at(tree));
            return super.visitDoWhileLoop(tree, none);
        }

        @Override public Void visitBinary(BinaryTree tree, Void none) {
            boolean isOfText = isText(tree.getLeftOperand()) || isText(tree.getRightOperand());
            return isOfText ? refuse(tree) : super.visitBinary(tree, none);
        }

        @Override public Void visitCompoundAssignment(CompoundAssignmentTree tree, Void none) {
            return isText(tree.getVariable()) ? refuse(tree) : super.visitCompoundAssignment(tree, none);
        }

        private boolean isText(ExpressionTree tree) {
            String type = typeOf(tree).toString();
            return type.equals("java.lang.String") || type.equals("java.lang.Integer");
        }

        @Override public Void visitTypeCast(TypeCastTree tree, Void none) {
            return typeOf(tree.getType()).getKind().isPrimitive() ? super.visitTypeCast(tree, none)
                    : refuse(tree);
        }

        @Override public Void visitCase(CaseTree tree, Void none) {
            return tree.getCaseKind() == CaseTree.CaseKind.STATEMENT ? super.visitCase(tree, none)
                    : refuse(tree);
        }

        @Override public Void visitImport(ImportTree tree, Void none) {
            return refuse(tree);
        }

        @Override public Void visitAnnotation(AnnotationTree tree, Void none) {
            return refuse(tree);
        }

        @Override public Void visitLambdaExpression(LambdaExpressionTree tree, Void none) {
            return refuse(tree);
        }

        @Override public Void visitMemberReference(MemberReferenceTree tree, Void none) {
            return refuse(tree);
        }

        @Override public Void visitThrow(ThrowTree tree, Void none) {
            return refuse(tree);
        }

        @Override public Void visitTry(TryTree tree, Void none) {
            return refuse(tree);
        }

        @Override public Void visitSynchronized(SynchronizedTree tree, Void none) {
            return refuse(tree);
        }

        @Override public Void visitAssert(AssertTree tree, Void none) {
            return refuse(tree);
        }
    }

    private static Seen read() {
        JavaCompiler javac = ToolProvider.getSystemJavaCompiler();
        StandardJavaFileManager files = javac.getStandardFileManager(null, null, null);
        JavacTask task = (JavacTask) javac.getTask(null, files, null, List.of("-proc:none"), null,
                files.getJavaFileObjects(SOURCE));
        try {
            CompilationUnitTree unit = task.parse().iterator().next();
            task.analyze();
            Seen seen = new Seen(Trees.instance(task), unit);
            seen.scan(unit, null);
            return seen;
        } catch (IOException e) {
            throw new IllegalStateException(e);
        }
    }

    private static void none(String what, Iterable<?> found) {
        for (Object one : found) {
            DUE.is(what + ": " + one, 1, 0);
        }
        DUE.is(what, found.iterator().hasNext() ? 1 : 0, 0);
    }

    private static Element elementOf(Tree tree) {
        return SEEN.trees.getElement(SEEN.trees.getPath(SEEN.unit, tree));
    }

    // "without a package line"; one public class and classes inside it
    static void oneFileOneClass() {
        DUE.is("a package line", SEEN.unit.getPackageName() == null ? 0 : 1, 0);
        DUE.is("classes beside one another", SEEN.unit.getTypeDecls().size(), 1);
    }

    // rule 1: "No private method bears the name of a public one."
    static void rule1Names() {
        Set<String> face = new HashSet<>();
        for (ExecutableElement m : SEEN.methods.keySet()) {
            if (m.getModifiers().contains(Modifier.PUBLIC)) {
                face.add(m.getSimpleName().toString());
            }
        }
        DUE.is("public methods, and the constructor", face.size(), 35);
        for (ExecutableElement m : SEEN.methods.keySet()) {
            boolean isOther = !m.getModifiers().contains(Modifier.PUBLIC)
                    && m.getKind() == ElementKind.METHOD;
            DUE.is("the face's name " + m, isOther && face.contains(m.getSimpleName().toString()) ? 1 : 0, 0);
        }
    }

    // rule 2: "private or package-visible and static"; no local and no anonymous class
    static void rule2ClassesInside() {
        for (ClassTree c : SEEN.classes) {
            Element is = elementOf(c);
            boolean isOutermost = is.getSimpleName().contentEquals("FireFromFire");
            Set<Modifier> how = is.getModifiers();
            DUE.is(is + " is public", how.contains(Modifier.PUBLIC) ? 1 : 0, isOutermost ? 1 : 0);
            DUE.is(is + " is protected", how.contains(Modifier.PROTECTED) ? 1 : 0, 0);
            DUE.is(is + " is static", how.contains(Modifier.STATIC) ? 1 : 0, isOutermost ? 0 : 1);
            DUE.is(is + " stands in a class", is.getEnclosingElement().getKind() == ElementKind.CLASS
                    || isOutermost ? 1 : 0, 1);
        }
    }

    // rule 3: which types there are; arrays of two dimensions of numbers alone
    static void rule3Types() {
        for (Map.Entry<String, TypeMirror> one : SEEN.types.entrySet()) {
            DUE.is(one.getKey() + " of type " + one.getValue(), isType(one.getValue()) ? 1 : 0, 1);
        }
    }

    private static boolean isType(TypeMirror type) {
        if (type.getKind() != TypeKind.ARRAY) {
            return isPlainType(type);
        }
        TypeMirror item = ((ArrayType) type).getComponentType();
        if (item.getKind() != TypeKind.ARRAY) {
            return isPlainType(item) && item.getKind() != TypeKind.VOID;
        }
        return NUMBERS.contains(((ArrayType) item).getComponentType().getKind());
    }

    private static boolean isPlainType(TypeMirror type) {
        return NUMBERS.contains(type.getKind()) || type.getKind() == TypeKind.BOOLEAN
                || type.getKind() == TypeKind.VOID || type.toString().equals("java.lang.String")
                || type.toString().startsWith("FireFromFire");
    }

    // rules 4 and 13: "only what stands here"
    static void rule4Library() {
        for (String call : SEEN.library) {
            DUE.is("library call " + call, LIBRARY.contains(call) ? 1 : 0, 1);
        }
    }

    // rules 3 and 4: constants' signs are 1 to 127
    static void rule4Signs() throws IOException {
        for (byte sign : Files.readAllBytes(SOURCE)) {
            boolean isPlain = sign == '\n' || sign >= ' ' && sign < 127;
            if (!isPlain) {
                DUE.is("a sign in the source", sign, '?');
            }
        }
        DUE.is("bytes of the source", Files.size(SOURCE) > 0 ? 1 : 0, 1);
    }

    // rule 5: "Static fields are final: constants of int, long, boolean, char or String"
    static void rule5StaticFields() {
        for (ClassTree c : SEEN.classes) {
            for (Tree member : c.getMembers()) {
                DUE.is("an initialiser block in " + c.getSimpleName(),
                        member.getKind() == Tree.Kind.BLOCK ? 1 : 0, 0);
                if (member instanceof VariableTree) {
                    staticField(elementOf(member));
                }
            }
        }
    }

    private static void staticField(Element field) {
        if (field.getModifiers().contains(Modifier.STATIC)) {
            DUE.is(field + " is final", field.getModifiers().contains(Modifier.FINAL) ? 1 : 0, 1);
            boolean isConstant = ((javax.lang.model.element.VariableElement) field).getConstantValue() != null;
            DUE.is(field + " is a constant", isConstant ? 1 : 0, 1);
        }
    }

    // rules 2, 6 and 10: lambdas, throw, try, casts of objects, texts put together by +, imports ..
    static void rule6NoneOfThese() {
        none("not in this part of the language", SEEN.forbidden);
    }

    // rule 6: "No equals, hashCode or toString of your own objects"
    static void rule6OfObjects() {
        for (ExecutableElement m : SEEN.methods.keySet()) {
            DUE.is("a method " + m, OF_OBJECTS.contains(m.getSimpleName().toString()) ? 1 : 0, 0);
        }
    }

    // rule 8: methods that call one another are private, and carry a number for the depth
    static void rule8Recursion() {
        Set<String> again = new TreeSet<>();
        for (ExecutableElement m : SEEN.methods.keySet()) {
            if (reached(m).contains(m)) {
                again.add(m.toString());
                DUE.is(m + " is private", m.getModifiers().contains(Modifier.PRIVATE) ? 1 : 0, 1);
            }
        }
        DUE.is("methods that call one another: " + again,
                again.equals(Set.of("takeEither(int)", "takePart(int)")) ? 1 : 0, 1);
    }

    private static Set<ExecutableElement> reached(ExecutableElement from) {
        Set<ExecutableElement> all = new LinkedHashSet<>();
        List<ExecutableElement> open = new ArrayList<>(SEEN.calls.get(from));
        for (int k = 0; k < open.size(); k++) {
            if (all.add(open.get(k))) {
                open.addAll(SEEN.calls.getOrDefault(open.get(k), Set.of()));
            }
        }
        return all;
    }

    // rule 9: "Every loop has an end that can be seen from its own lines"
    static void rule9Loops() {
        none("a loop without a counter", SEEN.loops);
    }

    // rule 11: "A method takes at most seven parameters. Methods stay short (some sixty lines)"
    static void rule11Methods() {
        for (Map.Entry<ExecutableElement, MethodTree> one : SEEN.methods.entrySet()) {
            MethodTree m = one.getValue();
            DUE.is("parameters of " + one.getKey(), m.getParameters().size() <= 7 ? 1 : 0, 1);
            long begin = SEEN.trees.getSourcePositions().getStartPosition(SEEN.unit, m);
            long end = SEEN.trees.getSourcePositions().getEndPosition(SEEN.unit, m);
            long lines = begin < 0 ? 0 : SEEN.unit.getLineMap().getLineNumber(end)
                    - SEEN.unit.getLineMap().getLineNumber(begin) + 1;
            DUE.is(lines + " lines of " + one.getKey(), lines <= 60 ? 1 : 0, 1);
        }
    }

    // rule 11: "calls that are no recursion go at most eight deep", the library's counted too
    static void rule11Depth() {
        for (ExecutableElement m : SEEN.methods.keySet()) {
            if (m.getModifiers().contains(Modifier.PUBLIC)) {
                int deep = depth(m, new HashSet<>());
                DUE.is(m + " calls " + deep + " deep", deep <= 8 ? 1 : 0, 1);
            }
        }
    }

    /** How many calls stand open at most, a method that is open already not counted again. */
    private static int depth(ExecutableElement m, Set<ExecutableElement> open) {
        int most = SEEN.callsLibrary.contains(m) ? 1 : 0;
        open.add(m);
        for (ExecutableElement called : SEEN.calls.getOrDefault(m, Set.of())) {
            if (!open.contains(called)) {
                most = Math.max(most, depth(called, open));
            }
        }
        open.remove(m);
        return most + 1;
    }

    // rule 11: "the file has at most some twelve classes, and a class some twenty fields"
    static void rule11Classes() {
        DUE.is("classes: " + SEEN.classes.size(), SEEN.classes.size() <= 12 ? 1 : 0, 1);
        for (ClassTree c : SEEN.classes) {
            int fields = 0;
            for (Tree member : c.getMembers()) {
                boolean isField = member instanceof VariableTree
                        && !elementOf(member).getModifiers().contains(Modifier.STATIC);
                fields += isField ? 1 : 0;
            }
            DUE.is(fields + " fields of " + c.getSimpleName(), fields <= 20 ? 1 : 0, 1);
        }
    }

    // rule 12, and "make rows in constructors and use them again"
    static void rule12Objects() {
        none("an object made by a method", SEEN.made);
    }
}

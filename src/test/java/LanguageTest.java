import com.sun.source.tree.AssertTree;
import com.sun.source.tree.BinaryTree;
import com.sun.source.tree.BlockTree;
import com.sun.source.tree.ClassTree;
import com.sun.source.tree.CompilationUnitTree;
import com.sun.source.tree.LambdaExpressionTree;
import com.sun.source.tree.MemberReferenceTree;
import com.sun.source.tree.MethodInvocationTree;
import com.sun.source.tree.MethodTree;
import com.sun.source.tree.NewArrayTree;
import com.sun.source.tree.NewClassTree;
import com.sun.source.tree.SynchronizedTree;
import com.sun.source.tree.ThrowTree;
import com.sun.source.tree.Tree;
import com.sun.source.tree.TryTree;
import com.sun.source.tree.VariableTree;
import com.sun.source.util.JavacTask;
import com.sun.source.util.TreePath;
import com.sun.source.util.TreePathScanner;
import com.sun.source.util.Trees;
import java.io.File;
import java.util.Arrays;
import java.util.HashMap;
import java.util.HashSet;
import java.util.List;
import java.util.Map;
import java.util.Set;
import java.util.TreeMap;
import java.util.TreeSet;
import javax.lang.model.element.Element;
import javax.lang.model.element.ElementKind;
import javax.lang.model.element.Modifier;
import javax.lang.model.element.VariableElement;
import javax.lang.model.type.ArrayType;
import javax.lang.model.type.TypeKind;
import javax.lang.model.type.TypeMirror;
import javax.tools.JavaCompiler;
import javax.tools.StandardJavaFileManager;
import javax.tools.ToolProvider;

/** The rules of LANGUAGE.md that can be seen in the source. */
final class LanguageTest extends TreePathScanner<Void, Void> {
    private static final String FACE = "PairedViews feed end text fault country deed till state lasts watch way married unhappy"
        + " agree view fits fact words drawn need keystone height meet after wrong tell count image again NONE";
    private static final Set<String> LIBRARY = Set.of("String.length", "String.charAt", "Math.abs", "Math.min", "Math.max",
        "Integer.bitCount", "System.arraycopy", "Object.<init>");
    private static final Set<String> NUMBERS = Set.of("int", "long", "short", "byte", "char", "boolean");
    /** The one method that calls itself; its depth is an argument. */
    private static final String RECURSIVE = "Watchers.tryFrom";
    private static final int MOST_LINES = 60;
    private static final int MOST_PARAMETERS = 7;
    private static final int MOST_CLASSES = 12;
    private static final int MOST_FIELDS = 20;
    private static final int MOST_DEPTH = 8;

    private final Trees trees;
    private final CompilationUnitTree unit;
    private final Map<String, Set<String>> calls = new TreeMap<>();
    private final Set<String> face = new TreeSet<>();
    private int classes = 0;

    private LanguageTest(Trees trees, CompilationUnitTree unit) {
        this.trees = trees;
        this.unit = unit;
    }

    public static void main(String[] args) throws Exception {
        JavaCompiler compiler = ToolProvider.getSystemJavaCompiler();
        StandardJavaFileManager files = compiler.getStandardFileManager(null, null, null);
        File source = new File("src/main/java/PairedViews.java");
        JavacTask task = (JavacTask) compiler.getTask(null, files, null, List.of("-proc:none"), null,
            files.getJavaFileObjects(source));
        CompilationUnitTree unit = task.parse().iterator().next();
        task.analyze();
        LanguageTest test = new LanguageTest(Trees.instance(task), unit);
        test.scan(unit, null);
        test.rule("no package, no imports", unit.getPackageName() == null && unit.getImports().isEmpty(), unit);
        Check.due("the face: " + test.face, test.face.equals(new TreeSet<>(Arrays.asList(FACE.split(" ")))), true);
        Check.due("some twelve classes", test.classes <= MOST_CLASSES, true);
        for (String name : test.calls.keySet()) {
            Check.due("calls too deep from " + name, test.depth(name, new HashSet<>(), new HashMap<>()) <= MOST_DEPTH, true);
        }
        Check.finish();
    }

    private void rule(String what, boolean kept, Tree where) {
        long at = unit.getLineMap().getLineNumber(trees.getSourcePositions().getStartPosition(unit, where));
        Check.due("line " + at + ": " + what, kept, true);
    }

    /** How many calls stand open at most below a method, itself counted, what calls itself counted once. */
    private int depth(String name, Set<String> open, Map<String, Integer> known) {
        if (known.containsKey(name)) {
            return known.get(name);
        }
        Check.due("calls itself: " + name, !open.contains(name), true);
        if (!open.add(name)) {
            return 0;
        }
        int most = 0;
        for (String callee : calls.getOrDefault(name, Set.of())) {
            if (!callee.equals(name) || !name.equals(RECURSIVE)) {
                most = Math.max(most, depth(callee, open, known));
            }
        }
        open.remove(name);
        known.put(name, most + 1);
        return most + 1;
    }

    private static String nameOf(Element method) {
        return method.getEnclosingElement().getSimpleName() + "." + method.getSimpleName();
    }

    private String openMethod() {
        for (TreePath path = getCurrentPath(); path != null; path = path.getParentPath()) {
            if (path.getLeaf() instanceof MethodTree) {
                return nameOf(trees.getElement(path));
            }
        }
        return null;
    }

    private void called(Element method, Tree where) {
        String name = nameOf(method);
        boolean own = method.getEnclosingElement().toString().startsWith("PairedViews");
        rule("library call " + name, own || LIBRARY.contains(name), where);
        if (own && openMethod() != null) {
            calls.computeIfAbsent(openMethod(), key -> new TreeSet<>()).add(name);
        }
    }

    @Override
    public Void visitMethodInvocation(MethodInvocationTree tree, Void none) {
        called(trees.getElement(getCurrentPath()), tree);
        return super.visitMethodInvocation(tree, none);
    }

    @Override
    public Void visitNewClass(NewClassTree tree, Void none) {
        rule("no anonymous class", tree.getClassBody() == null, tree);
        called(trees.getElement(getCurrentPath()), tree);
        return super.visitNewClass(tree, none);
    }

    @Override
    public Void visitClass(ClassTree tree, Void none) {
        classes++;
        Element element = trees.getElement(getCurrentPath());
        Set<Modifier> flags = element.getModifiers();
        boolean outer = element.getEnclosingElement().getKind() == ElementKind.PACKAGE;
        rule("no local class", outer || getCurrentPath().getParentPath().getLeaf() instanceof ClassTree, tree);
        rule("classes", outer ? flags.contains(Modifier.PUBLIC) && flags.contains(Modifier.FINAL)
            : flags.contains(Modifier.STATIC) && !flags.contains(Modifier.PUBLIC) && !flags.contains(Modifier.PROTECTED), tree);
        int fields = 0;
        for (Element member : element.getEnclosedElements()) {
            fields += member.getKind() == ElementKind.FIELD && !member.getModifiers().contains(Modifier.STATIC) ? 1 : 0;
            if (outer) {
                ofFace(member, tree);
            }
        }
        rule("some twenty fields", fields <= MOST_FIELDS, tree);
        return super.visitClass(tree, none);
    }

    private void ofFace(Element member, Tree where) {
        Set<Modifier> flags = member.getModifiers();
        if (flags.contains(Modifier.PUBLIC)) {
            String name = member.getKind() == ElementKind.CONSTRUCTOR ? "PairedViews" : member.getSimpleName().toString();
            face.add(name);
        } else if (!member.getKind().isClass()) {
            rule("private: " + member, flags.contains(Modifier.PRIVATE), where);
        }
    }

    @Override
    public Void visitMethod(MethodTree tree, Void none) {
        Element element = trees.getElement(getCurrentPath());
        long from = unit.getLineMap().getLineNumber(trees.getSourcePositions().getStartPosition(unit, tree));
        long to = unit.getLineMap().getLineNumber(Math.max(0, trees.getSourcePositions().getEndPosition(unit, tree)));
        rule("short methods", to - from < MOST_LINES, tree);
        rule("seven parameters", tree.getParameters().size() <= MOST_PARAMETERS, tree);
        boolean named = Arrays.asList(FACE.split(" ")).contains(tree.getName().toString());
        rule("names of the face", !named || element.getModifiers().contains(Modifier.PUBLIC), tree);
        rule("no throws", tree.getThrows().isEmpty(), tree);
        calls.computeIfAbsent(nameOf(element), key -> new TreeSet<>());
        return super.visitMethod(tree, none);
    }

    @Override
    public Void visitVariable(VariableTree tree, Void none) {
        VariableElement element = (VariableElement) trees.getElement(getCurrentPath());
        Set<Modifier> flags = element.getModifiers();
        if (element.getKind() == ElementKind.FIELD && flags.contains(Modifier.STATIC)) {
            boolean constant = element.getConstantValue() != null;
            boolean writtenOut = element.asType().toString().matches("(int|long|char|byte)\\[\\]")
                && tree.getInitializer() instanceof NewArrayTree;
            rule("static fields are constants", flags.contains(Modifier.FINAL) && (constant || writtenOut), tree);
        }
        rule("a type that the rules have: " + element.asType(), isListed(element.asType()), tree);
        return super.visitVariable(tree, none);
    }

    /** Of the types that rule 3 has, those that the class needs: no floating numbers, lists or arrays of arrays. */
    private static boolean isListed(TypeMirror type) {
        if (type instanceof ArrayType row) {
            return row.getComponentType().getKind() != TypeKind.ARRAY && isListed(row.getComponentType());
        }
        String name = type.toString();
        return NUMBERS.contains(name) || name.equals("java.lang.String") || name.startsWith("PairedViews");
    }

    @Override
    public Void visitBlock(BlockTree tree, Void none) {
        rule("no initialiser block", !(getCurrentPath().getParentPath().getLeaf() instanceof ClassTree), tree);
        return super.visitBlock(tree, none);
    }

    @Override
    public Void visitBinary(BinaryTree tree, Void none) {
        Element type = trees.getTypeMirror(getCurrentPath()).getKind() == TypeKind.DECLARED ? unitElement() : null;
        rule("no joining of texts by +", type == null, tree);
        return super.visitBinary(tree, none);
    }

    private Element unitElement() {
        return trees.getElement(new TreePath(new TreePath(unit), unit.getTypeDecls().get(0)));
    }

    @Override
    public Void visitLambdaExpression(LambdaExpressionTree tree, Void none) {
        rule("no lambda", false, tree);
        return null;
    }

    @Override
    public Void visitMemberReference(MemberReferenceTree tree, Void none) {
        rule("no method reference", false, tree);
        return null;
    }

    @Override
    public Void visitThrow(ThrowTree tree, Void none) {
        rule("no throw", false, tree);
        return null;
    }

    @Override
    public Void visitTry(TryTree tree, Void none) {
        rule("no try", false, tree);
        return null;
    }

    @Override
    public Void visitSynchronized(SynchronizedTree tree, Void none) {
        rule("no synchronized", false, tree);
        return null;
    }

    @Override
    public Void visitAssert(AssertTree tree, Void none) {
        rule("no assert", false, tree);
        return null;
    }
}

import com.sun.source.tree.AssertTree;
import com.sun.source.tree.BlockTree;
import com.sun.source.tree.CatchTree;
import com.sun.source.tree.ClassTree;
import com.sun.source.tree.CompilationUnitTree;
import com.sun.source.tree.IdentifierTree;
import com.sun.source.tree.LambdaExpressionTree;
import com.sun.source.tree.LineMap;
import com.sun.source.tree.MemberReferenceTree;
import com.sun.source.tree.MemberSelectTree;
import com.sun.source.tree.MethodInvocationTree;
import com.sun.source.tree.MethodTree;
import com.sun.source.tree.NewArrayTree;
import com.sun.source.tree.NewClassTree;
import com.sun.source.tree.SynchronizedTree;
import com.sun.source.tree.ThrowTree;
import com.sun.source.tree.Tree;
import com.sun.source.tree.TryTree;
import com.sun.source.tree.VariableTree;
import com.sun.source.util.JavacTask;
import com.sun.source.util.TreePathScanner;
import com.sun.source.util.Trees;
import java.nio.file.Path;
import java.util.ArrayList;
import java.util.HashMap;
import java.util.HashSet;
import java.util.LinkedHashSet;
import java.util.List;
import java.util.Map;
import java.util.Set;
import javax.lang.model.element.Element;
import javax.lang.model.element.ElementKind;
import javax.lang.model.element.Modifier;
import javax.tools.JavaCompiler;
import javax.tools.StandardJavaFileManager;
import javax.tools.ToolProvider;

/** Rules of LANGUAGE.md that can be read off the source's tree. */
final class LanguageTest extends TreePathScanner<Void, Void> {
    private static final Set<String> LIBRARY = Set.of(
        "java.lang.Math.min", "java.lang.Math.max", "java.lang.Math.abs", "java.lang.Integer.bitCount",
        "java.lang.System.arraycopy", "java.util.Arrays.fill", "java.lang.Object.<init>");
    private static final Set<String> FACE = Set.of(
        "tower", "towers", "road", "corner", "forest", "feed", "law", "mend", "of", "line", "guilty", "guilts", "which", "led", "seen",
        "free", "years", "fewest", "cheapest", "moved", "bent", "newly", "game", "sight", "fits", "undo", "redo", "body", "act", "trace",
        "keep", "row", "put", "element", "shift", "taken", "count");
    private final Check check;
    private final Trees trees;
    private final CompilationUnitTree unit;
    private final LineMap lines;
    private final Map<Element, Set<Element>> calls = new HashMap<>();
    private final Set<String> publicNames = new HashSet<>();
    private final Map<Element, Integer> fields = new HashMap<>();
    private int classes = 0;
    private Element method = null;

    private LanguageTest(Check check, Trees trees, CompilationUnitTree unit) {
        this.check = check;
        this.trees = trees;
        this.unit = unit;
        lines = unit.getLineMap();
    }

    public static void main(String[] args) throws Exception {
        Check check = new Check("language");
        JavaCompiler compiler = ToolProvider.getSystemJavaCompiler();
        try (StandardJavaFileManager files = compiler.getStandardFileManager(null, null, null)) {
            JavacTask task = (JavacTask) compiler.getTask(null, files, null, List.of("-proc:none"), null,
                files.getJavaFileObjects(Path.of("src/main/java/NeverInLine.java")));
            CompilationUnitTree unit = task.parse().iterator().next();
            task.analyze();
            LanguageTest test = new LanguageTest(check, Trees.instance(task), unit);
            test.scan(unit, null);
            test.judge();
        }
        check.end();
    }

    private void judge() {
        check.holds("rule 1: the face", publicNames.equals(FACE));
        check.holds("rule 11: at most twelve classes, not " + classes, classes <= 12);
        fields.forEach((type, many) -> check.holds("rule 11: fields of " + type + ": " + many, many <= 20));
        Map<Element, Integer> depths = new HashMap<>();
        for (Element each : calls.keySet()) {
            if (each.getModifiers().contains(Modifier.PUBLIC)) {
                List<Element> chain = deepest(each, new LinkedHashSet<>());
                depths.put(each, chain.size());
                check.holds("rule 11: eight deep: " + chain, chain.size() <= 8);
            }
        }
        System.out.println("language: deepest chain of calls " + depths.values().stream().max(Integer::compare).orElse(0) + ", classes " + classes);
    }

    /** The longest chain of calls from a method on; a call back to one that stands open is recursion and counts no more. */
    private List<Element> deepest(Element from, LinkedHashSet<Element> open) {
        List<Element> best = new ArrayList<>();
        open.add(from);
        for (Element next : calls.getOrDefault(from, Set.of())) {
            if (!open.contains(next) && !(isRecursive(from) && isRecursive(next))) {
                List<Element> chain = deepest(next, open);
                if (chain.size() > best.size()) {
                    best = chain;
                }
            }
        }
        open.remove(from);
        List<Element> whole = new ArrayList<>(List.of(from));
        whole.addAll(best);
        return whole;
    }

    private boolean isRecursive(Element m) {
        Set<Element> reached = new HashSet<>();
        List<Element> work = new ArrayList<>(calls.getOrDefault(m, Set.of()));
        while (!work.isEmpty()) {
            Element next = work.remove(work.size() - 1);
            if (next.equals(m)) {
                return true;
            }
            if (reached.add(next)) {
                work.addAll(calls.getOrDefault(next, Set.of()));
            }
        }
        return false;
    }

    private String where(Tree tree) {
        return " in line " + lines.getLineNumber(trees.getSourcePositions().getStartPosition(unit, tree));
    }

    private void never(String rule, Tree tree) {
        check.holds(rule + where(tree), false);
    }

    @Override
    public Void visitClass(ClassTree tree, Void unused) {
        classes++;
        Element type = trees.getElement(getCurrentPath());
        Set<Modifier> signs = type.getModifiers();
        boolean outer = type.getSimpleName().contentEquals("NeverInLine");
        check.holds("rule 1, 2: class " + type, outer ? signs.contains(Modifier.PUBLIC) && signs.contains(Modifier.FINAL)
            : signs.contains(Modifier.STATIC) && !signs.contains(Modifier.PUBLIC) && !signs.contains(Modifier.PROTECTED));
        for (Tree member : tree.getMembers()) {
            if (member instanceof BlockTree) {
                never("rule 5: initialiser block", member);
            }
        }
        return super.visitClass(tree, unused);
    }

    @Override
    public Void visitMethod(MethodTree tree, Void unused) {
        Element it = trees.getElement(getCurrentPath());
        Element before = method;
        method = it;
        calls.computeIfAbsent(it, k -> new HashSet<>());
        long first = lines.getLineNumber(trees.getSourcePositions().getStartPosition(unit, tree));
        long end = trees.getSourcePositions().getEndPosition(unit, tree);
        long last = end < 0 ? first : lines.getLineNumber(end);
        check.holds("rule 11: sixty lines: " + it, last - first < 60);
        check.holds("rule 11: seven parameters: " + it, tree.getParameters().size() <= 7);
        boolean outer = it.getEnclosingElement().getSimpleName().contentEquals("NeverInLine");
        String name = it.getSimpleName().toString();
        Set<Modifier> signs = it.getModifiers();
        if (signs.contains(Modifier.PUBLIC) && it.getKind() == ElementKind.METHOD) {
            publicNames.add(name);
            check.holds("rule 1: public only in the face: " + it, outer);
        } else {
            check.holds("rule 1: no name of the face: " + it, !FACE.contains(name));
            check.holds("rule 1: private in the face: " + it, !outer || signs.contains(Modifier.PRIVATE) || it.getKind() == ElementKind.CONSTRUCTOR);
        }
        super.visitMethod(tree, unused);
        method = before;
        return null;
    }

    @Override
    public Void visitVariable(VariableTree tree, Void unused) {
        Element it = trees.getElement(getCurrentPath());
        if (it.getKind() == ElementKind.FIELD) {
            Set<Modifier> signs = it.getModifiers();
            if (signs.contains(Modifier.STATIC)) {
                String type = it.asType().toString();
                check.holds("rule 5: final: " + it, signs.contains(Modifier.FINAL));
                check.holds("rule 5: type of " + it, Set.of("int", "long", "boolean", "char", "java.lang.String", "int[]", "long[]", "char[]", "byte[]").contains(type));
            } else {
                fields.merge(it.getEnclosingElement(), 1, Integer::sum);
            }
            boolean outer = it.getEnclosingElement().getSimpleName().contentEquals("NeverInLine");
            boolean constant = signs.contains(Modifier.PUBLIC) && Set.of("BAD", "NOT", "FULL", "STATE", "VOID").contains(it.toString());
            check.holds("rule 1: private field: " + it, !outer || constant || signs.contains(Modifier.PRIVATE));
        }
        return super.visitVariable(tree, unused);
    }

    private void noteCall(Element called) {
        if (called == null || method == null) {
            return;
        }
        String home = called.getEnclosingElement().toString();
        if (home.startsWith("NeverInLine")) {
            calls.get(method).add(called);
        } else {
            String name = home + "." + called.getSimpleName();
            check.holds("rule 4: " + name, LIBRARY.contains(name));
        }
    }

    @Override
    public Void visitMethodInvocation(MethodInvocationTree tree, Void unused) {
        noteCall(trees.getElement(getCurrentPath()));
        return super.visitMethodInvocation(tree, unused);
    }

    @Override
    public Void visitNewClass(NewClassTree tree, Void unused) {
        if (tree.getClassBody() != null) {
            never("rule 2: anonymous class", tree);
        }
        noteCall(trees.getElement(getCurrentPath()));
        madeInCall(tree);
        return super.visitNewClass(tree, unused);
    }

    @Override
    public Void visitNewArray(NewArrayTree tree, Void unused) {
        madeInCall(tree);
        return super.visitNewArray(tree, unused);
    }

    /** Rule 12 lets calls make objects; the class makes all of them with itself, and this keeps it so. */
    private void madeInCall(Tree tree) {
        check.holds("rule 12: made in a call" + where(tree), method == null || method.getKind() == ElementKind.CONSTRUCTOR);
    }

    @Override
    public Void visitMemberSelect(MemberSelectTree tree, Void unused) {
        Element it = trees.getElement(getCurrentPath());
        boolean foreign = it != null && it.getKind() == ElementKind.FIELD && !it.getSimpleName().contentEquals("length")
            && !it.getEnclosingElement().toString().startsWith("NeverInLine");
        check.holds("rule 4: field " + tree, !foreign);
        return super.visitMemberSelect(tree, unused);
    }

    @Override
    public Void visitIdentifier(IdentifierTree tree, Void unused) {
        check.holds("rule 3: doubles" + where(tree), !Set.of("Object", "Character", "Double").contains(tree.getName().toString()));
        return super.visitIdentifier(tree, unused);
    }

    @Override
    public Void visitThrow(ThrowTree tree, Void unused) {
        never("rule 6: throw", tree);
        return null;
    }

    @Override
    public Void visitTry(TryTree tree, Void unused) {
        never("rule 6: try", tree);
        return null;
    }

    @Override
    public Void visitCatch(CatchTree tree, Void unused) {
        never("rule 6: catch", tree);
        return null;
    }

    @Override
    public Void visitAssert(AssertTree tree, Void unused) {
        never("rule 6: assert", tree);
        return null;
    }

    @Override
    public Void visitSynchronized(SynchronizedTree tree, Void unused) {
        never("rule 6: synchronized", tree);
        return null;
    }

    @Override
    public Void visitLambdaExpression(LambdaExpressionTree tree, Void unused) {
        never("rule 2: lambda", tree);
        return null;
    }

    @Override
    public Void visitMemberReference(MemberReferenceTree tree, Void unused) {
        never("rule 2: method reference", tree);
        return null;
    }
}

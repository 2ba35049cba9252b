import com.sun.source.tree.ClassTree;
import com.sun.source.tree.CompilationUnitTree;
import com.sun.source.tree.LineMap;
import com.sun.source.tree.LiteralTree;
import com.sun.source.tree.MethodInvocationTree;
import com.sun.source.tree.MethodTree;
import com.sun.source.tree.NewClassTree;
import com.sun.source.tree.Tree;
import com.sun.source.tree.VariableTree;
import com.sun.source.util.JavacTask;
import com.sun.source.util.TreePathScanner;
import com.sun.source.util.Trees;
import java.io.IOException;
import java.nio.file.Path;
import java.util.HashMap;
import java.util.HashSet;
import java.util.List;
import java.util.Map;
import java.util.Set;
import java.util.TreeSet;
import javax.lang.model.element.Element;
import javax.lang.model.element.ElementKind;
import javax.lang.model.element.Modifier;
import javax.tools.JavaCompiler;
import javax.tools.StandardJavaFileManager;
import javax.tools.ToolProvider;

/** The rules of LANGUAGE.md, as far as the class's syntax tree shows them. The argument is the class's file. */
public final class LanguageTests {
    private static final Checks CHECKS = new Checks();
    private static final Set<Tree.Kind> RULED_OUT = Set.of(Tree.Kind.THROW, Tree.Kind.TRY, Tree.Kind.CATCH,
        Tree.Kind.SYNCHRONIZED, Tree.Kind.ASSERT, Tree.Kind.LAMBDA_EXPRESSION, Tree.Kind.MEMBER_REFERENCE,
        Tree.Kind.SWITCH_EXPRESSION, Tree.Kind.STRING_LITERAL, Tree.Kind.IMPORT, Tree.Kind.PACKAGE,
        Tree.Kind.INSTANCE_OF, Tree.Kind.WHILE_LOOP, Tree.Kind.DO_WHILE_LOOP, Tree.Kind.ANNOTATION);
    private static final Set<String> LIBRARY = Set.of("Math.max", "Math.min", "Math.abs", "Integer.bitCount", "System.arraycopy");
    private static final Set<String> FACE_FIELDS = Set.of("BAD", "FULL", "FINDING", "STATE", "SPENT", "NONE");
    private static final Set<String> FACE = Set.of("row", "lay", "at", "tear", "copy", "mean", "text", "put", "fault", "town",
        "house", "mark", "walk", "tap", "slate", "frost", "night", "undo", "keep", "on", "takes", "pays", "who", "quarrels",
        "soonest", "intime", "many", "dates", "whose", "kinds", "test", "sets", "sure", "duel", "odds", "mid", "lots",
        "asked", "upper", "lower", "count", "finding", "findings", "digest");

    public static void main(String[] args) throws IOException {
        Path file = Path.of(args.length > 0 ? args[0] : "src/main/java/WokenYears.java");
        JavaCompiler compiler = ToolProvider.getSystemJavaCompiler();
        try (StandardJavaFileManager files = compiler.getStandardFileManager(null, null, null)) {
            JavacTask task = (JavacTask) compiler.getTask(null, files, null, List.of("-proc:none"), null, files.getJavaFileObjects(file));
            CompilationUnitTree unit = task.parse().iterator().next();
            task.analyze();
            Rules rules = new Rules(unit, Trees.instance(task));
            rules.scan(unit, null);
            rules.end(unit);
        }
        CHECKS.end("LanguageTests");
    }

    /** Walks through the tree once. */
    private static final class Rules extends TreePathScanner<Void, Void> {
        private final LineMap lines;
        private final CompilationUnitTree unit;
        private final Trees trees;
        private final Map<Element, Set<Element>> calls = new HashMap<>();
        private final Set<Element> own = new HashSet<>();
        private final Set<String> face = new TreeSet<>();
        private final Set<String> constants = new TreeSet<>();
        private int classes = 0;
        private Element method;

        Rules(CompilationUnitTree unit, Trees trees) {
            this.unit = unit;
            this.lines = unit.getLineMap();
            this.trees = trees;
        }

        private long lineOf(Tree tree) {
            return lines.getLineNumber(trees.getSourcePositions().getStartPosition(unit, tree));
        }

        private void rule(int number, Tree tree, boolean holds) {
            CHECKS.that("rule " + number + " at line " + lineOf(tree), holds);
        }

        @Override
        public Void scan(Tree tree, Void none) {
            if (tree != null) {
                rule(6, tree, !RULED_OUT.contains(tree.getKind()));
            }
            return super.scan(tree, none);
        }

        @Override
        public Void visitClass(ClassTree tree, Void none) {
            Set<Modifier> flags = tree.getModifiers().getFlags();
            boolean outer = getCurrentPath().getParentPath().getLeaf() == unit;
            classes++;
            rule(1, tree, outer ? flags.contains(Modifier.PUBLIC) && flags.contains(Modifier.FINAL)
                : flags.contains(Modifier.STATIC) && !flags.contains(Modifier.PUBLIC));
            rule(11, tree, tree.getMembers().stream().filter(m -> m instanceof VariableTree v
                && !v.getModifiers().getFlags().contains(Modifier.STATIC)).count() <= 20);
            for (Tree member : tree.getMembers()) {
                rule(5, member, member.getKind() != Tree.Kind.BLOCK);
                if (outer && member instanceof VariableTree v) {
                    Set<Modifier> f = v.getModifiers().getFlags();
                    if (f.contains(Modifier.PUBLIC)) {
                        constants.add(v.getName().toString());
                    }
                    rule(1, v, f.contains(Modifier.PUBLIC) || f.contains(Modifier.PRIVATE));
                    rule(5, v, !f.contains(Modifier.STATIC) || f.contains(Modifier.FINAL));
                }
                if (outer && member instanceof MethodTree m) {
                    outerMethod(m);
                }
            }
            return super.visitClass(tree, none);
        }

        private void outerMethod(MethodTree tree) {
            boolean isPublic = tree.getModifiers().getFlags().contains(Modifier.PUBLIC);
            rule(1, tree, isPublic || tree.getModifiers().getFlags().contains(Modifier.PRIVATE));
            if (isPublic) {
                face.add(tree.getName().toString());
            }
        }

        @Override
        public Void visitMethod(MethodTree tree, Void none) {
            long first = lineOf(tree);
            long last = lines.getLineNumber(trees.getSourcePositions().getEndPosition(unit, tree));
            rule(11, tree, last - first < 60);
            rule(11, tree, tree.getParameters().size() <= 7);
            boolean isPublic = tree.getModifiers().getFlags().contains(Modifier.PUBLIC);
            rule(1, tree, isPublic || !FACE.contains(tree.getName().toString()));
            method = trees.getElement(getCurrentPath());
            own.add(method);
            super.visitMethod(tree, none);
            method = null;
            return null;
        }

        @Override
        public Void visitMethodInvocation(MethodInvocationTree tree, Void none) {
            Element called = trees.getElement(getCurrentPath());
            String type = called.getEnclosingElement().getSimpleName().toString();
            boolean library = called.getEnclosingElement().getEnclosingElement().getKind() == ElementKind.PACKAGE && !type.equals("WokenYears");
            String name = called.getSimpleName().toString();
            rule(4, tree, !library || name.equals("<init>") || LIBRARY.contains(type + "." + name));
            if (method != null) {
                calls.computeIfAbsent(method, m -> new HashSet<>()).add(called);
            }
            return super.visitMethodInvocation(tree, none);
        }

        @Override
        public Void visitNewClass(NewClassTree tree, Void none) {
            rule(2, tree, tree.getClassBody() == null);
            return super.visitNewClass(tree, none);
        }

        @Override
        public Void visitLiteral(LiteralTree tree, Void none) {
            rule(3, tree, !(tree.getValue() instanceof Character c) || c < 128);
            return super.visitLiteral(tree, none);
        }

        // a method that calls itself counts once
        private int depth(Element from, Set<Element> open) {
            if (!own.contains(from) || !open.add(from)) {
                return 0;
            }
            int deepest = 0;
            for (Element to : calls.getOrDefault(from, Set.of())) {
                CHECKS.that("rule 8: only a private static method calls itself: " + from, to != from || from.getModifiers().containsAll(Set.of(Modifier.PRIVATE, Modifier.STATIC)));
                CHECKS.that("rule 8: no round of calls through " + to, to == from || !open.contains(to));
                deepest = Math.max(deepest, depth(to, open));
            }
            open.remove(from);
            return 1 + deepest;
        }

        void end(CompilationUnitTree tree) {
            CHECKS.that("rule 1: one class", tree.getTypeDecls().size() == 1);
            CHECKS.that("rule 11: classes", classes <= 12);
            CHECKS.that("the constants: " + constants, constants.equals(FACE_FIELDS));
            face.remove("<init>");
            CHECKS.that("the face: " + face, face.equals(FACE));
            for (Element from : own) {
                CHECKS.that("rule 11: calls eight deep from " + from, depth(from, new HashSet<>()) <= 8);
            }
        }
    }
}

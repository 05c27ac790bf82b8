import com.sun.source.tree.*;
import com.sun.source.util.JavacTask;
import com.sun.source.util.TreePathScanner;
import com.sun.source.util.Trees;
import java.io.File;
import java.util.HashMap;
import java.util.HashSet;
import java.util.List;
import java.util.Map;
import java.util.Set;
import javax.lang.model.element.Element;
import javax.lang.model.element.ElementKind;
import javax.lang.model.element.ExecutableElement;
import javax.lang.model.element.Modifier;
import javax.tools.JavaCompiler;
import javax.tools.StandardJavaFileManager;
import javax.tools.ToolProvider;

/** Rules of ../shared/LANGUAGE.md that only the source can show; the program needs no library, no text and no exception. */
public final class LanguageTest extends Checks {
    private static final int MOST_CLASSES = 12;
    private static final int MOST_FIELDS = 20;
    private static final int MOST_LINES = 60;
    private static final int MOST_PARAMETERS = 7;
    private static final int DEEPEST = 8;

    public static void main(String[] args) throws Exception {
        JavaCompiler compiler = ToolProvider.getSystemJavaCompiler();
        StandardJavaFileManager files = compiler.getStandardFileManager(null, null, null);
        File program = new File("src/main/java/GalaHeats.java");
        JavacTask task = (JavacTask) compiler.getTask(null, files, null, List.of("-proc:none"), null, files.getJavaFileObjects(program));
        CompilationUnitTree unit = task.parse().iterator().next();
        task.analyze();
        dueNot("rule 1: a package line", unit.getPackageName() != null);
        dueNot("rule 4: an import", !unit.getImports().isEmpty());
        Looker looker = new Looker(unit, Trees.instance(task));
        looker.scan(unit, null);
        dueNot("rule 11: more than " + MOST_CLASSES + " classes", looker.classes > MOST_CLASSES);
        for (Element method : looker.calls.keySet()) {
            dueNot("rules 8 and 11: " + method + " is deeper than " + DEEPEST, looker.depth(method, 0) > DEEPEST);
        }
        finish();
    }

    private static void dueNot(String what, boolean broken) {
        due(what + " (1: broken)", broken ? 1 : 0, 0);
    }

    private static final class Looker extends TreePathScanner<Void, Void> {
        private final CompilationUnitTree unit;
        private final Trees trees;
        private final Map<Element, Set<Element>> calls = new HashMap<>();
        private Element inside;
        private int classes;

        Looker(CompilationUnitTree itsUnit, Trees itsTrees) {
            unit = itsUnit;
            trees = itsTrees;
        }

        private String where(Tree tree) {
            return "line " + line(trees.getSourcePositions().getStartPosition(unit, tree)) + ": ";
        }

        private long line(long position) {
            return unit.getLineMap().getLineNumber(position);
        }

        private boolean isOwn(Element element) {
            return element != null && trees.getPath(element) != null;
        }

        private int depth(Element method, int above) {
            int deepest = 0;
            for (Element called : calls.getOrDefault(method, Set.of())) {
                deepest = Math.max(deepest, above > DEEPEST ? 1 : depth(called, above + 1));
            }
            return deepest + 1;
        }

        @Override
        public Void visitClass(ClassTree tree, Void nothing) {
            classes++;
            int fields = 0;
            for (Tree member : tree.getMembers()) {
                if (member instanceof VariableTree field && !field.getModifiers().getFlags().contains(Modifier.STATIC)) {
                    fields++;
                }
                dueNot(where(member) + "rule 5: a static block", member instanceof BlockTree);
            }
            dueNot(where(tree) + "rule 11: more than " + MOST_FIELDS + " fields", fields > MOST_FIELDS);
            return super.visitClass(tree, nothing);
        }

        @Override
        public Void visitVariable(VariableTree tree, Void nothing) {
            if (tree.getModifiers().getFlags().contains(Modifier.STATIC)) {
                String type = tree.getType().toString();
                boolean constant = type.equals("int") ? isNumber(tree.getInitializer())
                    : type.equals("int[]") && tree.getInitializer() instanceof NewArrayTree;
                dueNot(where(tree) + "rule 5: a static field that is no constant", !constant);
            }
            return super.visitVariable(tree, nothing);
        }

        private boolean isNumber(Tree tree) {
            return tree instanceof LiteralTree || (tree instanceof UnaryTree sign && sign.getExpression() instanceof LiteralTree);
        }

        @Override
        public Void visitMethod(MethodTree tree, Void nothing) {
            inside = trees.getElement(getCurrentPath());
            calls.putIfAbsent(inside, new HashSet<>());
            long first = line(trees.getSourcePositions().getStartPosition(unit, tree));
            long last = line(trees.getSourcePositions().getEndPosition(unit, tree));
            dueNot(where(tree) + "rule 11: longer than " + MOST_LINES + " lines", last - first >= MOST_LINES);
            dueNot(where(tree) + "rule 11: more than " + MOST_PARAMETERS + " parameters", tree.getParameters().size() > MOST_PARAMETERS);
            super.visitMethod(tree, nothing);
            inside = null;
            return null;
        }

        @Override
        public Void visitMethodInvocation(MethodInvocationTree tree, Void nothing) {
            Element called = trees.getElement(getCurrentPath());
            boolean ofObject = called instanceof ExecutableElement && called.getSimpleName().contentEquals("<init>");
            if (!ofObject) {
                dueNot(where(tree) + "rule 4: a call of the library: " + called, !isOwn(called));
                if (inside != null) {
                    calls.get(inside).add(called);
                }
            }
            return super.visitMethodInvocation(tree, nothing);
        }

        /** All rows are made in constructors, so that no call fills the one room of all calls. */
        @Override
        public Void visitNewClass(NewClassTree tree, Void nothing) {
            dueNot(where(tree) + "an object is made outside a constructor", inside != null && inside.getKind() != ElementKind.CONSTRUCTOR);
            return super.visitNewClass(tree, nothing);
        }

        @Override
        public Void visitNewArray(NewArrayTree tree, Void nothing) {
            dueNot(where(tree) + "an array is made outside a constructor", inside != null && inside.getKind() != ElementKind.CONSTRUCTOR);
            return super.visitNewArray(tree, nothing);
        }

        @Override
        public Void visitLiteral(LiteralTree tree, Void nothing) {
            dueNot(where(tree) + "a text", tree.getKind() == Tree.Kind.STRING_LITERAL);
            return super.visitLiteral(tree, nothing);
        }

        @Override
        public Void visitThrow(ThrowTree tree, Void nothing) {
            dueNot(where(tree) + "rule 6: the document wants no exception", true);
            return super.visitThrow(tree, nothing);
        }

        @Override
        public Void visitTry(TryTree tree, Void nothing) {
            dueNot(where(tree) + "rule 6: nothing is thrown that could be caught", true);
            return super.visitTry(tree, nothing);
        }

        @Override
        public Void visitLambdaExpression(LambdaExpressionTree tree, Void nothing) {
            dueNot(where(tree) + "rule 2: a lambda", true);
            return super.visitLambdaExpression(tree, nothing);
        }

        @Override
        public Void visitMemberReference(MemberReferenceTree tree, Void nothing) {
            dueNot(where(tree) + "rule 2: a method reference", true);
            return super.visitMemberReference(tree, nothing);
        }
    }
}

import com.sun.source.tree.AssertTree;
import com.sun.source.tree.BinaryTree;
import com.sun.source.tree.BlockTree;
import com.sun.source.tree.ClassTree;
import com.sun.source.tree.CompilationUnitTree;
import com.sun.source.tree.InstanceOfTree;
import com.sun.source.tree.LambdaExpressionTree;
import com.sun.source.tree.MemberReferenceTree;
import com.sun.source.tree.MethodInvocationTree;
import com.sun.source.tree.MethodTree;
import com.sun.source.tree.NewArrayTree;
import com.sun.source.tree.NewClassTree;
import com.sun.source.tree.SynchronizedTree;
import com.sun.source.tree.ThrowTree;
import com.sun.source.tree.Tree;
import com.sun.source.tree.TryTree;
import com.sun.source.tree.VariableTree;
import com.sun.source.util.JavacTask;
import com.sun.source.util.SourcePositions;
import com.sun.source.util.TreePathScanner;
import com.sun.source.util.Trees;
import java.nio.file.Path;
import java.util.HashMap;
import java.util.HashSet;
import java.util.List;
import java.util.Map;
import java.util.Set;
import java.util.TreeMap;
import java.util.TreeSet;
import javax.lang.model.element.Element;
import javax.lang.model.element.ElementKind;
import javax.lang.model.element.ExecutableElement;
import javax.lang.model.element.Modifier;
import javax.tools.JavaCompiler;
import javax.tools.StandardJavaFileManager;
import javax.tools.ToolProvider;

/** The rules of LANGUAGE.md that can be read off the compiler's own tree of the class. */
public final class RulesTest {
    private static final Set<String> LIBRARY = Set.of("Integer.bitCount", "Math.abs", "Math.max", "Math.min",
            "String.charAt", "String.length", "System.arraycopy", "Object.<init>");
    private static final String OWN = "WaistcoatGreen(\\.\\w+)?";

    private RulesTest() {
    }

    public static void main(String[] args) throws Exception {
        JavaCompiler compiler = ToolProvider.getSystemJavaCompiler();
        try (StandardJavaFileManager files = compiler.getStandardFileManager(null, null, null)) {
            JavacTask task = (JavacTask) compiler.getTask(null, files, null, List.of("-proc:none"), null,
                    files.getJavaFileObjects(Path.of("src/main/java/WaistcoatGreen.java")));
            CompilationUnitTree unit = task.parse().iterator().next();
            task.analyze();
            Reading reading = new Reading(unit, Trees.instance(task));
            reading.scan(unit, null);
            Check.due("rule 4: imports", unit.getImports().size(), 0);
            Check.due("rule 2: classes of the file, one of them public", unit.getTypeDecls().size(), 1);
            Check.due("rule 11: some twelve classes", reading.classes <= 12 ? 1 : 0, 1);
            Check.due("the tree has the face's methods", reading.calls.size() > 75 ? 1 : 0, 1);
            recursion(reading);
        }
        Check.finish("RulesTest");
    }

    /** Rules 8 and 11: none but a private static method calls itself, none comes round over another; eight deep at most. */
    private static void recursion(Reading reading) {
        for (Map.Entry<String, Set<String>> each : reading.calls.entrySet()) {
            String name = each.getKey();
            if (each.getValue().contains(name)) {
                Check.due("rule 8: " + name + " calls itself", reading.privateStatic.contains(name) ? 1 : 0, 1);
            }
            int depth = depth(reading, name, new HashSet<>());
            Check.due("rule 11: calls below " + name + ": " + depth, depth <= 8 ? 1 : 0, 1);
        }
    }

    private static int depth(Reading reading, String name, Set<String> open) {
        if (!open.add(name)) {
            Check.due("rule 8: comes round to " + name, 1, 0);
            return 0;
        }
        int most = 0;
        for (String next : reading.calls.getOrDefault(name, Set.of())) {
            if (!next.equals(name)) {
                most = Math.max(most, depth(reading, next, open));
            }
        }
        open.remove(name);
        return most + 1;
    }

    private static final class Reading extends TreePathScanner<Void, Void> {
        private static final Set<Modifier> CONSTANT = Set.of(Modifier.STATIC, Modifier.FINAL);
        final CompilationUnitTree unit;
        final Trees trees;
        final SourcePositions places;
        final Map<String, Set<String>> calls = new TreeMap<>();
        final Set<String> privateStatic = new TreeSet<>();
        final Map<String, Integer> fields = new HashMap<>();
        int classes;
        private String method = "";
        private boolean isMaking;

        Reading(CompilationUnitTree unit, Trees trees) {
            this.unit = unit;
            this.trees = trees;
            this.places = trees.getSourcePositions();
        }

        private long line(long place) {
            return unit.getLineMap().getLineNumber(place);
        }

        private String at(Tree tree) {
            return " at line " + line(places.getStartPosition(unit, tree));
        }

        private Element here() {
            return trees.getElement(getCurrentPath());
        }

        private void refuse(String rule, Tree tree) {
            Check.due(rule + at(tree), 1, 0);
        }

        @Override
        public Void visitClass(ClassTree tree, Void none) {
            classes++;
            Element element = here();
            boolean isOuter = element.getEnclosingElement().getKind() == ElementKind.PACKAGE;
            boolean isMember = element.getEnclosingElement().getKind() == ElementKind.CLASS;
            Set<Modifier> modifiers = element.getModifiers();
            boolean isHidden = !modifiers.contains(Modifier.PUBLIC) && !modifiers.contains(Modifier.PROTECTED);
            boolean isNested = isMember && isHidden && modifiers.contains(Modifier.STATIC);
            Check.due("rules 1, 2: " + tree.getSimpleName() + " is nested, static, hidden", isOuter || isNested ? 1 : 0, 1);
            super.visitClass(tree, none);
            int own = fields.getOrDefault(element.toString(), 0);
            Check.due("rule 11: " + tree.getSimpleName() + " has some twenty fields", own <= 20 ? 1 : 0, 1);
            return null;
        }

        @Override
        public Void visitVariable(VariableTree tree, Void none) {
            Element element = here();
            String type = element.asType().toString();
            boolean isNumber = type.matches("(int|long|short|byte|char|boolean)(\\[\\])?(\\[\\])?");
            Check.due("rule 3: " + type + at(tree),
                    isNumber || type.matches(OWN + "(\\[\\])?") || type.equals("java.lang.String") ? 1 : 0, 1);
            if (element.getKind() == ElementKind.FIELD) {
                field(tree, element, type);
            }
            boolean wasMaking = isMaking;
            isMaking = element.getKind() == ElementKind.FIELD;
            super.visitVariable(tree, none);
            isMaking = wasMaking;
            return null;
        }

        private void field(VariableTree tree, Element element, String type) {
            if (!element.getModifiers().contains(Modifier.STATIC)) {
                fields.merge(element.getEnclosingElement().toString(), 1, Integer::sum);
                return;
            }
            boolean isConstant = element.getModifiers().containsAll(CONSTANT) && type.matches("int|long|boolean|char");
            Check.due("rule 5: " + tree.getName() + " is a constant", isConstant && tree.getInitializer() != null ? 1 : 0, 1);
        }

        @Override
        public Void visitMethod(MethodTree tree, Void none) {
            ExecutableElement element = (ExecutableElement) here();
            method = nameOf(element);
            calls.computeIfAbsent(method, key -> new TreeSet<>());
            if (element.getModifiers().containsAll(Set.of(Modifier.PRIVATE, Modifier.STATIC))) {
                privateStatic.add(method);
            }
            long lines = line(places.getEndPosition(unit, tree)) - line(places.getStartPosition(unit, tree)) + 1;
            Check.due("rule 11: lines of " + method + ": " + lines, lines <= 60 ? 1 : 0, 1);
            Check.due("rule 11: parameters of " + method, tree.getParameters().size() <= 7 ? 1 : 0, 1);
            isMaking = element.getKind() == ElementKind.CONSTRUCTOR;
            super.visitMethod(tree, none);
            isMaking = false;
            return null;
        }

        private static String nameOf(ExecutableElement element) {
            return element.getEnclosingElement().getSimpleName() + "." + element;
        }

        @Override
        public Void visitMethodInvocation(MethodInvocationTree tree, Void none) {
            ExecutableElement called = (ExecutableElement) here();
            String owner = called.getEnclosingElement().toString();
            if (owner.matches(OWN)) {
                calls.computeIfAbsent(method, key -> new TreeSet<>()).add(nameOf(called));
            } else {
                String name = called.getEnclosingElement().getSimpleName() + "." + called.getSimpleName();
                Check.due("rule 4: " + name + at(tree), LIBRARY.contains(name) ? 1 : 0, 1);
            }
            return super.visitMethodInvocation(tree, none);
        }

        /** More than rule 12 asks: all that is made is made with the object. */
        @Override
        public Void visitNewClass(NewClassTree tree, Void none) {
            Check.due("rule 12: made in a call" + at(tree), isMaking ? 1 : 0, 1);
            Check.due("rule 2: a class without a name" + at(tree), tree.getClassBody() == null ? 1 : 0, 1);
            return super.visitNewClass(tree, none);
        }

        @Override
        public Void visitNewArray(NewArrayTree tree, Void none) {
            Check.due("rule 12: made in a call" + at(tree), isMaking ? 1 : 0, 1);
            return super.visitNewArray(tree, none);
        }

        @Override
        public Void visitBlock(BlockTree tree, Void none) {
            if (getCurrentPath().getParentPath().getLeaf() instanceof ClassTree) {
                refuse("rule 5: a block of the class itself", tree);
            }
            return super.visitBlock(tree, none);
        }

        @Override
        public Void visitBinary(BinaryTree tree, Void none) {
            String type = String.valueOf(trees.getTypeMirror(getCurrentPath()));
            Check.due("rule 10: texts joined, or doubles" + at(tree), type.matches("int|long|boolean") ? 1 : 0, 1);
            return super.visitBinary(tree, none);
        }

        @Override
        public Void visitLambdaExpression(LambdaExpressionTree tree, Void none) {
            refuse("rule 2: lambda", tree);
            return null;
        }

        @Override
        public Void visitMemberReference(MemberReferenceTree tree, Void none) {
            refuse("rule 2: method reference", tree);
            return null;
        }

        @Override
        public Void visitThrow(ThrowTree tree, Void none) {
            refuse("rule 6: throw", tree);
            return null;
        }

        @Override
        public Void visitTry(TryTree tree, Void none) {
            refuse("rule 6: try", tree);
            return null;
        }

        @Override
        public Void visitSynchronized(SynchronizedTree tree, Void none) {
            refuse("rule 6: synchronized", tree);
            return null;
        }

        @Override
        public Void visitAssert(AssertTree tree, Void none) {
            refuse("rule 6: assert", tree);
            return null;
        }

        @Override
        public Void visitInstanceOf(InstanceOfTree tree, Void none) {
            refuse("not needed here: instanceof", tree);
            return null;
        }
    }
}

import com.sun.source.tree.AssertTree;
import com.sun.source.tree.BinaryTree;
import com.sun.source.tree.ClassTree;
import com.sun.source.tree.CompilationUnitTree;
import com.sun.source.tree.CompoundAssignmentTree;
import com.sun.source.tree.ForLoopTree;
import com.sun.source.tree.ImportTree;
import com.sun.source.tree.LambdaExpressionTree;
import com.sun.source.tree.MemberReferenceTree;
import com.sun.source.tree.MethodInvocationTree;
import com.sun.source.tree.MethodTree;
import com.sun.source.tree.NewArrayTree;
import com.sun.source.tree.NewClassTree;
import com.sun.source.tree.SynchronizedTree;
import com.sun.source.tree.ThrowTree;
import com.sun.source.tree.Tree;
import com.sun.source.tree.TryTree;
import com.sun.source.tree.VariableTree;
import com.sun.source.util.JavacTask;
import com.sun.source.util.TreePath;
import com.sun.source.util.TreePathScanner;
import com.sun.source.util.Trees;
import java.io.IOException;
import java.nio.file.Path;
import java.util.ArrayList;
import java.util.HashMap;
import java.util.HashSet;
import java.util.LinkedHashMap;
import java.util.List;
import java.util.Map;
import java.util.Set;
import java.util.TreeSet;
import javax.lang.model.element.Element;
import javax.lang.model.element.ElementKind;
import javax.lang.model.element.Modifier;
import javax.tools.JavaCompiler;
import javax.tools.StandardJavaFileManager;
import javax.tools.ToolProvider;

/** What of LANGUAGE.md can be seen in the program's text holds, so that a mend does not leave it unseen. */
public final class LanguageTest {
    private static final Path PROGRAM = Path.of("src/main/java/TrustedUpdates.java");
    private static final Set<String> EXCEPTIONS = Set.of("IllegalStateException", "IllegalArgumentException",
            "IndexOutOfBoundsException", "ArithmeticException", "UnsupportedOperationException",
            "NoSuchElementException", "RuntimeException");
    private static final Set<String> LIBRARY = Set.of("System.arraycopy", "Object.<init>");
    private static final int MOST_PARAMETERS = 7;
    private static final int MOST_LINES = 60;
    private static final int MOST_CALLS_DEEP = 8;
    private static final int MOST_CLASSES = 12;
    private static final int MOST_FIELDS = 20;

    static void rule1OnePublicClassAndNoPrivateMethodNamedAsAPublicOne() throws IOException {
        Reading reading = Reading.ofTheProgram();
        reading.complain(1);
        Set<String> both = new TreeSet<>(reading.publicNames);
        both.retainAll(reading.otherNames);
        none("names of public methods that others bear", both);
    }

    static void rule2NestedClassesAreStaticAndNothingIsALambda() throws IOException {
        Reading.ofTheProgram().complain(2);
    }

    static void rule4OnlyTheLibraryThatItLists() throws IOException {
        Reading.ofTheProgram().complain(4);
    }

    static void rule5StaticFieldsAreConstants() throws IOException {
        Reading.ofTheProgram().complain(5);
    }

    static void rule6ExceptionsAreNewOnesOfTheSevenAndNoneInAConstructor() throws IOException {
        Reading.ofTheProgram().complain(6);
    }

    static void rule9EveryForHasItsBound() throws IOException {
        Reading.ofTheProgram().complain(9);
    }

    static void rule10TextsAreNotJoinedByPlus() throws IOException {
        Reading.ofTheProgram().complain(10);
    }

    static void rule11SizesAreKept() throws IOException {
        Reading reading = Reading.ofTheProgram();
        reading.complain(11);
        atMost("classes", reading.fields.size(), MOST_CLASSES);
        reading.fields.forEach((name, count) -> atMost("fields of " + name, count, MOST_FIELDS));
    }

    static void rule11CallsGoAtMostEightDeep() throws IOException {
        Reading reading = Reading.ofTheProgram();
        for (Element method : reading.calls.keySet()) {
            List<String> chain = reading.longestFrom(method, new HashSet<>());
            atMost("calls of " + String.join(" > ", chain), chain.size(), MOST_CALLS_DEEP);
        }
    }

    /** The program's own way to keep rule 12: only constructors make what is kept. */
    static void rule12NoCallMakesAnObject() throws IOException {
        Reading.ofTheProgram().complain(12);
    }

    private static void none(String what, Set<String> found) {
        if (!found.isEmpty()) {
            throw new AssertionError(what + ": " + found);
        }
    }

    private static void atMost(String what, int count, int most) {
        if (count > most) {
            throw new AssertionError(what + " are " + count + ", due are at most " + most);
        }
    }

    /** One reading of the program's text by the compiler, and what is found in it against each rule. */
    private static final class Reading extends TreePathScanner<Void, Void> {
        private final Map<Integer, Set<String>> found = new HashMap<>();
        private final Map<Element, Set<Element>> calls = new LinkedHashMap<>();
        private final Map<String, Integer> fields = new LinkedHashMap<>();
        private final Set<String> publicNames = new TreeSet<>();
        private final Set<String> otherNames = new TreeSet<>();
        private final CompilationUnitTree unit;
        private final Trees trees;
        private Element method;

        private Reading(CompilationUnitTree unit, Trees trees) {
            this.unit = unit;
            this.trees = trees;
        }

        static Reading ofTheProgram() throws IOException {
            JavaCompiler compiler = ToolProvider.getSystemJavaCompiler();
            try (StandardJavaFileManager files = compiler.getStandardFileManager(null, null, null)) {
                JavacTask task = (JavacTask) compiler.getTask(null, files, null, List.of("-proc:none"), null,
                        files.getJavaFileObjects(PROGRAM));
                CompilationUnitTree unit = task.parse().iterator().next();
                task.analyze();
                Reading reading = new Reading(unit, Trees.instance(task));
                reading.scan(new TreePath(unit), null);
                return reading;
            }
        }

        void complain(int rule) {
            none("against rule " + rule, found.getOrDefault(rule, Set.of()));
        }

        private void against(int rule, boolean wrong, Tree tree) {
            if (wrong) {
                found.computeIfAbsent(rule, key -> new TreeSet<>()).add("line " + lineOf(tree) + ": "
                        + tree.toString().strip().lines().findFirst().orElse(""));
            }
        }

        private long lineOf(Tree tree) {
            return unit.getLineMap().getLineNumber(trees.getSourcePositions().getStartPosition(unit, tree));
        }

        private long lastLineOf(Tree tree) {
            return unit.getLineMap().getLineNumber(trees.getSourcePositions().getEndPosition(unit, tree));
        }

        private Element elementOf(Tree tree) {
            return trees.getElement(new TreePath(getCurrentPath(), tree));
        }

        private boolean isInConstructor() {
            return method != null && method.getKind() == ElementKind.CONSTRUCTOR;
        }

        /** The longest chain of calls that begins with a method; a call of one that is open already is recursion. */
        List<String> longestFrom(Element from, Set<Element> open) {
            open.add(from);
            List<String> longest = List.of();
            for (Element called : calls.getOrDefault(from, Set.of())) {
                if (calls.containsKey(called) && !open.contains(called)) {
                    List<String> chain = longestFrom(called, open);
                    longest = chain.size() > longest.size() ? chain : longest;
                }
            }
            open.remove(from);
            List<String> all = new ArrayList<>(List.of(from.getSimpleName().toString()));
            all.addAll(longest);
            return all;
        }

        @Override
        public Void visitImport(ImportTree tree, Void nothing) {
            against(4, !tree.getQualifiedIdentifier().toString().equals("java.util.NoSuchElementException"), tree);
            return super.visitImport(tree, nothing);
        }

        @Override
        public Void visitClass(ClassTree tree, Void nothing) {
            boolean outer = getCurrentPath().getParentPath().getLeaf() == unit;
            Set<Modifier> flags = tree.getModifiers().getFlags();
            against(1, outer && !flags.equals(Set.of(Modifier.PUBLIC, Modifier.FINAL)), tree);
            against(1, !outer && (flags.contains(Modifier.PUBLIC) || flags.contains(Modifier.PROTECTED)), tree);
            against(2, !outer && !flags.contains(Modifier.STATIC), tree);
            int own = 0;
            for (Tree member : tree.getMembers()) {
                boolean isField = member instanceof VariableTree field
                        && !field.getModifiers().getFlags().contains(Modifier.STATIC);
                own += isField ? 1 : 0;
                against(5, member.getKind() == Tree.Kind.BLOCK, member);
            }
            fields.put(tree.getSimpleName().toString(), own);
            return super.visitClass(tree, nothing);
        }

        @Override
        public Void visitMethod(MethodTree tree, Void nothing) {
            method = trees.getElement(getCurrentPath());
            calls.put(method, new HashSet<>());
            if (method.getKind() == ElementKind.METHOD) {
                boolean isPublic = tree.getModifiers().getFlags().contains(Modifier.PUBLIC);
                (isPublic ? publicNames : otherNames).add(tree.getName().toString());
            }
            against(11, tree.getParameters().size() > MOST_PARAMETERS, tree);
            against(11, lastLineOf(tree) - lineOf(tree) >= MOST_LINES, tree);
            super.visitMethod(tree, nothing);
            method = null;
            return null;
        }

        @Override
        public Void visitVariable(VariableTree tree, Void nothing) {
            Set<Modifier> flags = tree.getModifiers().getFlags();
            boolean number = tree.getType().toString().equals("int");
            against(5, flags.contains(Modifier.STATIC) && !(flags.contains(Modifier.FINAL) && number), tree);
            return super.visitVariable(tree, nothing);
        }

        @Override
        public Void visitMethodInvocation(MethodInvocationTree tree, Void nothing) {
            called(elementOf(tree.getMethodSelect()), tree);
            return super.visitMethodInvocation(tree, nothing);
        }

        private void called(Element element, Tree tree) {
            Element owner = element.getEnclosingElement();
            boolean own = owner.toString().startsWith("TrustedUpdates");
            against(4, !own && !LIBRARY.contains(owner.getSimpleName() + "." + element.getSimpleName()), tree);
            if (method != null) {
                calls.get(method).add(element);
            }
        }

        @Override
        public Void visitNewClass(NewClassTree tree, Void nothing) {
            boolean exception = EXCEPTIONS.contains(tree.getIdentifier().toString());
            against(12, !exception && !isInConstructor(), tree);
            if (!exception) {
                called(trees.getElement(getCurrentPath()), tree);
            }
            return super.visitNewClass(tree, nothing);
        }

        @Override
        public Void visitNewArray(NewArrayTree tree, Void nothing) {
            against(12, !isInConstructor(), tree);
            return super.visitNewArray(tree, nothing);
        }

        @Override
        public Void visitThrow(ThrowTree tree, Void nothing) {
            boolean right = tree.getExpression() instanceof NewClassTree thrown
                    && EXCEPTIONS.contains(thrown.getIdentifier().toString());
            against(6, !right || isInConstructor(), tree);
            return super.visitThrow(tree, nothing);
        }

        @Override
        public Void visitTry(TryTree tree, Void nothing) {
            against(6, tree.getFinallyBlock() != null || !tree.getResources().isEmpty(), tree);
            return super.visitTry(tree, nothing);
        }

        @Override
        public Void visitSynchronized(SynchronizedTree tree, Void nothing) {
            against(6, true, tree);
            return super.visitSynchronized(tree, nothing);
        }

        @Override
        public Void visitAssert(AssertTree tree, Void nothing) {
            against(6, true, tree);
            return super.visitAssert(tree, nothing);
        }

        @Override
        public Void visitLambdaExpression(LambdaExpressionTree tree, Void nothing) {
            against(2, true, tree);
            return super.visitLambdaExpression(tree, nothing);
        }

        @Override
        public Void visitMemberReference(MemberReferenceTree tree, Void nothing) {
            against(2, true, tree);
            return super.visitMemberReference(tree, nothing);
        }

        @Override
        public Void visitForLoop(ForLoopTree tree, Void nothing) {
            against(9, tree.getCondition() == null || tree.getUpdate().isEmpty(), tree);
            return super.visitForLoop(tree, nothing);
        }

        @Override
        public Void visitBinary(BinaryTree tree, Void nothing) {
            against(10, tree.getKind() == Tree.Kind.PLUS && isText(), tree);
            return super.visitBinary(tree, nothing);
        }

        @Override
        public Void visitCompoundAssignment(CompoundAssignmentTree tree, Void nothing) {
            against(10, isText(), tree);
            return super.visitCompoundAssignment(tree, nothing);
        }

        private boolean isText() {
            return trees.getTypeMirror(getCurrentPath()).toString().equals("java.lang.String");
        }
    }

    public static void main(String[] args) {
        Cases.run(LanguageTest.class);
    }

    private LanguageTest() {
    }
}

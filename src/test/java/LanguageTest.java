import com.sun.source.tree.BinaryTree;
import com.sun.source.tree.ClassTree;
import com.sun.source.tree.CompilationUnitTree;
import com.sun.source.tree.LambdaExpressionTree;
import com.sun.source.tree.LiteralTree;
import com.sun.source.tree.MemberReferenceTree;
import com.sun.source.tree.MethodInvocationTree;
import com.sun.source.tree.MethodTree;
import com.sun.source.tree.NewClassTree;
import com.sun.source.tree.SynchronizedTree;
import com.sun.source.tree.ThrowTree;
import com.sun.source.tree.Tree;
import com.sun.source.tree.TryTree;
import com.sun.source.tree.TypeCastTree;
import com.sun.source.tree.VariableTree;
import com.sun.source.util.JavacTask;
import com.sun.source.util.TreePath;
import com.sun.source.util.TreePathScanner;
import com.sun.source.util.Trees;
import java.io.IOException;
import java.nio.file.Path;
import java.util.List;
import java.util.Map;
import java.util.Set;
import java.util.TreeMap;
import java.util.TreeSet;
import javax.lang.model.element.Element;
import javax.lang.model.element.ElementKind;
import javax.lang.model.element.Modifier;
import javax.lang.model.type.TypeMirror;
import javax.tools.JavaCompiler;
import javax.tools.StandardJavaFileManager;
import javax.tools.ToolProvider;

/** What of LANGUAGE.md can be seen in the program's tree, by the number of the rule. */
public final class LanguageTest {
    private static final int FACE_PARAMETERS = 9;

    // Of rules 4 and 6 what the program may come to need; another call that they list is put here with its first use.
    private static final Set<String> LIBRARY = Set.of(
        "String.length", "String.charAt", "String.isEmpty", "String.equals", "String.indexOf", "String.substring",
        "String.toCharArray", "StringBuilder.<init>", "StringBuilder.append", "StringBuilder.charAt",
        "StringBuilder.setCharAt", "StringBuilder.setLength", "StringBuilder.deleteCharAt", "StringBuilder.reverse",
        "StringBuilder.length", "StringBuilder.toString", "ArrayList.<init>", "ArrayList.add", "ArrayList.get",
        "ArrayList.set", "ArrayList.remove", "ArrayList.size", "ArrayList.isEmpty", "ArrayList.clear",
        "Integer.bitCount", "Math.max", "Math.min", "Math.abs", "System.arraycopy", "Arrays.copyOf",
        "Arrays.copyOfRange", "Arrays.fill", "NoSuchElementException.<init>", "IllegalArgumentException.<init>",
        "IllegalStateException.<init>", "Object.<init>");
    private static final Set<String> TYPES = Set.of("int", "long", "boolean", "char", "byte", "int[]", "byte[]",
        "boolean[]", "java.lang.String");

    private final Trees trees;
    private final CompilationUnitTree unit;
    private final Map<String, Set<String>> calls = new TreeMap<>();
    private final Map<String, Set<Modifier>> modifiers = new TreeMap<>();
    private int classes = 0;

    private LanguageTest(Trees trees, CompilationUnitTree unit) {
        this.trees = trees;
        this.unit = unit;
    }

    public static void main(String[] args) throws IOException {
        Path root = Path.of(args.length > 0 ? args[0] : ".");
        JavaCompiler compiler = ToolProvider.getSystemJavaCompiler();
        try (StandardJavaFileManager files = compiler.getStandardFileManager(null, null, null)) {
            JavacTask task = (JavacTask) compiler.getTask(null, files, null, List.of("-proc:none"), null,
                files.getJavaFileObjects(root.resolve("src/main/java/LivesAhead.java")));
            CompilationUnitTree unit = task.parse().iterator().next();
            task.analyze();
            LanguageTest test = new LanguageTest(Trees.instance(task), unit);
            test.new Look().scan(unit, null);
            test.unitIs();
            test.callsAre();
        }
        Check.end("LanguageTest");
    }

    private void unitIs() {
        Check.due("rule 1: a package line", unit.getPackage() != null, false);
        Check.due("rule 1: classes in the file itself", unit.getTypeDecls().size(), 1);
        Check.due("rule 11: at most some twelve classes, seen " + classes, classes <= 12, true);
    }

    /** Only a private static method calls itself, none calls another one in a ring, and no chain is deeper than eight. */
    private void callsAre() {
        for (String method : calls.keySet()) {
            if (calls.get(method).remove(method)) {
                Check.due("rule 8: " + method + " calls itself and is private and static",
                    modifiers.get(method).containsAll(Set.of(Modifier.PRIVATE, Modifier.STATIC)), true);
            }
        }
        for (String method : calls.keySet()) {
            int deep = depthOf(method, 0);
            Check.due("rule 11: calls from " + method + " go at most eight deep, seen " + deep, deep <= 8, true);
        }
    }

    private int depthOf(String method, int above) {
        int deepest = 0;
        for (String called : calls.getOrDefault(method, Set.of())) {
            if (above < 20) {
                deepest = Math.max(deepest, depthOf(called, above + 1));
            }
        }
        return deepest + 1;
    }

    private final class Look extends TreePathScanner<Void, Void> {
        private String method = "";

        private void never(String what, Tree tree) {
            Check.due(what + " in line " + line(tree), 1, 0);
        }

        private long line(Tree tree) {
            return unit.getLineMap().getLineNumber(trees.getSourcePositions().getStartPosition(unit, tree));
        }

        private long lastLine(Tree tree) {
            return unit.getLineMap().getLineNumber(trees.getSourcePositions().getEndPosition(unit, tree));
        }

        private TypeMirror typeOf(Tree tree) {
            return trees.getTypeMirror(new TreePath(getCurrentPath(), tree));
        }

        @Override
        public Void visitClass(ClassTree tree, Void none) {
            classes++;
            if (!method.isEmpty() || tree.getSimpleName().length() == 0) {
                never("rule 2: a class within a method", tree);
            }
            int fields = 0;
            for (Tree member : tree.getMembers()) {
                if (member.getKind() == Tree.Kind.BLOCK) {
                    never("rule 5: an initialiser block", member);
                }
                if (member instanceof VariableTree field) {
                    fields += field.getModifiers().getFlags().contains(Modifier.STATIC) ? 0 : 1;
                }
            }
            Check.due("rule 11: some twenty fields of " + tree.getSimpleName() + ", seen " + fields, fields <= 20, true);
            return super.visitClass(tree, none);
        }

        @Override
        public Void visitMethod(MethodTree tree, Void none) {
            Element element = trees.getElement(getCurrentPath());
            String outer = method;
            method = element.getEnclosingElement() + "." + tree.getName();
            calls.computeIfAbsent(method, m -> new TreeSet<>());
            modifiers.put(method, element.getModifiers());
            boolean face = element.getModifiers().contains(Modifier.PUBLIC);
            int most = face ? FACE_PARAMETERS : 7;
            Check.due("rule 11: parameters of " + method, tree.getParameters().size() <= most, true);
            long lines = lastLine(tree) - line(tree) + 1;
            Check.due("rule 11: " + method + " has some sixty lines at most, seen " + lines, lines <= 60, true);
            super.visitMethod(tree, none);
            method = outer;
            return null;
        }

        @Override
        public Void visitVariable(VariableTree tree, Void none) {
            Element element = trees.getElement(getCurrentPath());
            String type = element.asType().toString();
            boolean own = type.startsWith("LivesAhead") || type.startsWith("java.util.ArrayList<LivesAhead.");
            Check.due("rule 3: a type in line " + line(tree) + ", " + type, own || TYPES.contains(type), true);
            Set<Modifier> flags = element.getModifiers();
            if (element.getKind() == ElementKind.FIELD && flags.contains(Modifier.STATIC)) {
                Check.due("rule 5: static but final, line " + line(tree), flags.contains(Modifier.FINAL), true);
                Check.due("rule 5: a constant, line " + line(tree), Set.of("int", "long", "boolean", "char",
                    "java.lang.String").contains(type), true);
            }
            return super.visitVariable(tree, none);
        }

        @Override
        public Void visitMethodInvocation(MethodInvocationTree tree, Void none) {
            called(tree);
            return super.visitMethodInvocation(tree, none);
        }

        @Override
        public Void visitNewClass(NewClassTree tree, Void none) {
            called(tree);
            return super.visitNewClass(tree, none);
        }

        private void called(Tree tree) {
            Element element = trees.getElement(getCurrentPath());
            Element owner = element.getEnclosingElement();
            if (owner.toString().startsWith("LivesAhead")) {
                calls.computeIfAbsent(method, m -> new TreeSet<>()).add(owner + "." + element.getSimpleName());
                return;
            }
            String name = owner.getSimpleName() + "." + element.getSimpleName();
            Check.due("rule 4: " + name + " in line " + line(tree), LIBRARY.contains(name), true);
        }

        @Override
        public Void visitThrow(ThrowTree tree, Void none) {
            if (!(tree.getExpression() instanceof NewClassTree thrown)) {
                never("rule 6: a throw of something that isn't made there", tree);
            } else {
                boolean written = thrown.getArguments().stream().allMatch(a -> a instanceof LiteralTree);
                Check.due("rule 6: a written text in line " + line(tree), written, true);
                Check.due("rule 6: no throw in a constructor, line " + line(tree), method.endsWith("<init>"), false);
            }
            return super.visitThrow(tree, none);
        }

        @Override
        public Void visitBinary(BinaryTree tree, Void none) {
            for (Tree side : List.of(tree.getLeftOperand(), tree.getRightOperand())) {
                TypeMirror type = typeOf(side);
                boolean text = type != null && List.of("java.lang.String", "java.lang.Integer").contains(type.toString());
                Check.due("rules 6, 10: " + tree.getKind() + " of texts in line " + line(tree), text, false);
            }
            return super.visitBinary(tree, none);
        }

        @Override
        public Void visitTypeCast(TypeCastTree tree, Void none) {
            Check.due("a cast of numbers alone, line " + line(tree), typeOf(tree.getType()).getKind().isPrimitive(), true);
            return super.visitTypeCast(tree, none);
        }

        @Override
        public Void visitLiteral(LiteralTree tree, Void none) {
            if (tree.getValue() instanceof String text) {
                Check.due("rule 4: a text's signs are 1 to 127, line " + line(tree),
                    text.chars().allMatch(sign -> sign >= 1 && sign <= 127), true);
            }
            return super.visitLiteral(tree, none);
        }

        @Override
        public Void visitTry(TryTree tree, Void none) {
            never("the program needs no try: one", tree);
            return super.visitTry(tree, none);
        }

        @Override
        public Void visitLambdaExpression(LambdaExpressionTree tree, Void none) {
            never("rule 2: a lambda", tree);
            return super.visitLambdaExpression(tree, none);
        }

        @Override
        public Void visitMemberReference(MemberReferenceTree tree, Void none) {
            never("rule 2: a method reference", tree);
            return super.visitMemberReference(tree, none);
        }

        @Override
        public Void visitSynchronized(SynchronizedTree tree, Void none) {
            never("rule 6: synchronized", tree);
            return super.visitSynchronized(tree, none);
        }
    }
}

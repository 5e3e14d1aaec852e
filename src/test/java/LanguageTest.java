import com.sun.source.tree.AssertTree;
import com.sun.source.tree.CatchTree;
import com.sun.source.tree.ClassTree;
import com.sun.source.tree.CompilationUnitTree;
import com.sun.source.tree.ImportTree;
import com.sun.source.tree.LambdaExpressionTree;
import com.sun.source.tree.MemberReferenceTree;
import com.sun.source.tree.MethodInvocationTree;
import com.sun.source.tree.MethodTree;
import com.sun.source.tree.NewClassTree;
import com.sun.source.tree.SynchronizedTree;
import com.sun.source.tree.ThrowTree;
import com.sun.source.tree.Tree;
import com.sun.source.tree.TryTree;
import com.sun.source.tree.VariableTree;
import com.sun.source.util.JavacTask;
import com.sun.source.util.TreePath;
import com.sun.source.util.TreePathScanner;
import com.sun.source.util.Trees;
import java.io.File;
import java.nio.file.Files;
import java.nio.file.Path;
import java.util.HashMap;
import java.util.HashSet;
import java.util.LinkedHashMap;
import java.util.List;
import java.util.Map;
import java.util.Set;
import java.util.TreeSet;
import java.util.regex.Matcher;
import java.util.regex.Pattern;
import javax.lang.model.element.Element;
import javax.lang.model.element.ElementKind;
import javax.lang.model.element.Modifier;
import javax.tools.JavaCompiler;
import javax.tools.StandardJavaFileManager;
import javax.tools.ToolProvider;

/** The rules of LANGUAGE.md that a program can look at, and the face against the one in DOC.md. */
public final class LanguageTest {
    private static final int MOST_PARAMETERS = 7;
    private static final int MOST_LINES = 60;
    private static final int MOST_CLASSES = 12;
    private static final int MOST_FIELDS = 20;
    private static final int MOST_DEPTH = 8;
    private static final Set<String> IMPORTS = Set.of("java.util.Arrays", "java.util.ArrayList", "java.util.List",
        "java.util.Iterator");
    private static final Set<String> LIBRARY = Set.of("Math.max", "Math.min", "Math.abs", "Integer.bitCount",
        "System.arraycopy", "Arrays.fill", "Arrays.copyOf", "Arrays.copyOfRange");
    private static final Checks CHECKS = new Checks("LanguageTest");

    public static void main(String[] args) throws Exception {
        Path root = Path.of(args.length > 0 ? args[0] : ".");
        Path file = root.resolve("src/main/java/LivingDays.java");
        JavaCompiler compiler = ToolProvider.getSystemJavaCompiler();
        try (StandardJavaFileManager files = compiler.getStandardFileManager(null, null, null)) {
            JavacTask task = (JavacTask) compiler.getTask(null, files, null, List.of("-proc:none"), null,
                files.getJavaFileObjects(new File[] {file.toFile()}));
            CompilationUnitTree unit = task.parse().iterator().next();
            task.analyze();
            Looker looker = new Looker(unit, Trees.instance(task));
            looker.scan(unit, null);
            looker.end();
            face(root.resolve("../shared/DOC.md"), looker.face);
        }
        CHECKS.end();
    }

    /** The face of the document, without the names of parameters. */
    private static void face(Path document, Set<String> own) throws Exception {
        Set<String> due = new TreeSet<>();
        Matcher matcher = Pattern.compile("^    public (?:static final )?([A-Za-z][^;]*);", Pattern.MULTILINE)
            .matcher(Files.readString(document));
        while (matcher.find()) {
            due.add(matcher.group(1).replaceAll("(int|boolean) [A-Za-z]+(?=[,)])", "$1").replaceAll(" = .*", ""));
        }
        CHECKS.due("how many members the document's face has", due.size(), 61);
        if (!due.equals(own)) {
            Set<String> lacking = new TreeSet<>(due);
            lacking.removeAll(own);
            Set<String> beyond = new TreeSet<>(own);
            beyond.removeAll(due);
            CHECKS.fault("the face lacks " + lacking + " and has beyond it " + beyond);
        }
    }

    private static final class Looker extends TreePathScanner<Void, Void> {
        final Set<String> face = new TreeSet<>();
        private final CompilationUnitTree unit;
        private final Trees trees;
        private final Map<Element, Set<Element>> calls = new LinkedHashMap<>();
        private final Set<String> publicNames = new HashSet<>();
        private final Set<String> otherNames = new HashSet<>();
        private Element method = null;
        private int classes = 0;

        Looker(CompilationUnitTree unit, Trees trees) {
            this.unit = unit;
            this.trees = trees;
        }

        private void rule(boolean holds, int number, String what) {
            CHECKS.due("rule " + number + ": " + what, holds, true);
        }

        private long line(long position) {
            return unit.getLineMap().getLineNumber(position);
        }

        @Override
        public Void visitCompilationUnit(CompilationUnitTree node, Void nothing) {
            rule(node.getPackage() == null, 1, "no package line");
            rule(node.getTypeDecls().size() == 1, 1, "one class in the file");
            return super.visitCompilationUnit(node, nothing);
        }

        @Override
        public Void visitImport(ImportTree node, Void nothing) {
            rule(IMPORTS.contains(node.getQualifiedIdentifier().toString()), 4, "import " + node);
            return super.visitImport(node, nothing);
        }

        @Override
        public Void visitClass(ClassTree node, Void nothing) {
            classes++;
            Element element = trees.getElement(getCurrentPath());
            Set<Modifier> modifiers = element.getModifiers();
            boolean outer = node.getSimpleName().contentEquals("LivingDays");
            if (outer) {
                rule(modifiers.contains(Modifier.PUBLIC) && modifiers.contains(Modifier.FINAL), 1, "public final");
            } else {
                rule(getCurrentPath().getParentPath().getLeaf() instanceof ClassTree
                    && modifiers.contains(Modifier.STATIC), 2, node.getSimpleName() + " is static, inside");
                rule(!modifiers.contains(Modifier.PUBLIC) && !modifiers.contains(Modifier.PROTECTED), 1,
                    node.getSimpleName() + " is private or package-visible");
            }
            int fields = 0;
            for (Tree member : node.getMembers()) {
                rule(member.getKind() != Tree.Kind.BLOCK, 5, "no initialiser block in " + node.getSimpleName());
                if (member instanceof VariableTree field) {
                    boolean isStatic = field.getModifiers().getFlags().contains(Modifier.STATIC);
                    fields += isStatic ? 0 : 1;
                    rule(!isStatic || field.getModifiers().getFlags().contains(Modifier.FINAL), 5,
                        "static " + field.getName() + " is final");
                    faceOf(outer, field.getModifiers().getFlags(), "field " + field.getName(),
                        field.getType() + " " + field.getName());
                }
            }
            rule(fields <= MOST_FIELDS, 11, node.getSimpleName() + " has " + fields + " fields");
            return super.visitClass(node, nothing);
        }

        private void faceOf(boolean outer, Set<Modifier> flags, String name, String text) {
            if (!outer) {
                rule(!flags.contains(Modifier.PUBLIC) && !flags.contains(Modifier.PROTECTED), 1, name);
            } else if (flags.contains(Modifier.PUBLIC)) {
                face.add(text);
            } else {
                rule(flags.contains(Modifier.PRIVATE), 1, name + " of the face is public or private");
            }
        }

        @Override
        public Void visitMethod(MethodTree node, Void nothing) {
            Element before = method;
            method = trees.getElement(getCurrentPath());
            calls.putIfAbsent(method, new HashSet<>());
            ClassTree owner = (ClassTree) getCurrentPath().getParentPath().getLeaf();
            boolean outer = owner.getSimpleName().contentEquals("LivingDays");
            String name = node.getReturnType() == null ? owner.getSimpleName().toString() : node.getName().toString();
            StringBuilder text = new StringBuilder(node.getReturnType() == null ? "" : node.getReturnType() + " ");
            text.append(name).append('(');
            for (VariableTree parameter : node.getParameters()) {
                text.append(text.toString().endsWith("(") ? "" : ", ").append(parameter.getType());
            }
            faceOf(outer, node.getModifiers().getFlags(), "method " + name, text.append(')').toString());
            if (node.getReturnType() != null) {
                boolean isPublic = outer && node.getModifiers().getFlags().contains(Modifier.PUBLIC);
                (isPublic ? publicNames : otherNames).add(name);
            }
            rule(node.getParameters().size() <= MOST_PARAMETERS, 11, name + " has few parameters");
            long lines = line(trees.getSourcePositions().getEndPosition(unit, node))
                - line(trees.getSourcePositions().getStartPosition(unit, node)) + 1;
            rule(lines <= MOST_LINES, 11, name + " has " + lines + " lines");
            super.visitMethod(node, nothing);
            method = before;
            return null;
        }

        @Override
        public Void visitMethodInvocation(MethodInvocationTree node, Void nothing) {
            called(trees.getElement(new TreePath(getCurrentPath(), node.getMethodSelect())));
            return super.visitMethodInvocation(node, nothing);
        }

        @Override
        public Void visitNewClass(NewClassTree node, Void nothing) {
            rule(node.getClassBody() == null, 2, "no anonymous class");
            called(trees.getElement(getCurrentPath()));
            return super.visitNewClass(node, nothing);
        }

        private void called(Element target) {
            if (target == null) {
                return;
            }
            Element owner = target.getEnclosingElement();
            if (owner.toString().startsWith("LivingDays")) {
                if (method != null) {
                    calls.get(method).add(target);
                }
            } else if (!(target.getKind() == ElementKind.CONSTRUCTOR && owner.toString().equals("java.lang.Object"))) {
                String call = owner.getSimpleName() + "." + target.getSimpleName();
                rule(LIBRARY.contains(call), 4, "the library call " + call);
            }
        }

        @Override
        public Void visitLambdaExpression(LambdaExpressionTree node, Void nothing) {
            rule(false, 2, "no lambda");
            return null;
        }

        @Override
        public Void visitMemberReference(MemberReferenceTree node, Void nothing) {
            rule(false, 2, "no method reference");
            return null;
        }

        @Override
        public Void visitThrow(ThrowTree node, Void nothing) {
            rule(false, 6, "no throw");
            return null;
        }

        @Override
        public Void visitTry(TryTree node, Void nothing) {
            rule(false, 6, "no try");
            return null;
        }

        @Override
        public Void visitCatch(CatchTree node, Void nothing) {
            rule(false, 6, "no catch");
            return null;
        }

        @Override
        public Void visitSynchronized(SynchronizedTree node, Void nothing) {
            rule(false, 6, "no synchronized");
            return null;
        }

        @Override
        public Void visitAssert(AssertTree node, Void nothing) {
            rule(false, 6, "no assert");
            return null;
        }

        void end() {
            rule(classes <= MOST_CLASSES, 11, classes + " classes");
            for (String name : otherNames) {
                rule(!publicNames.contains(name), 1, "no other method bears the name " + name);
            }
            Map<Element, Integer> depths = new HashMap<>();
            for (Element each : calls.keySet()) {
                int depth = depth(each, depths, 0);
                rule(depth <= MOST_DEPTH, 11, "calls from " + each + " go " + depth + " deep");
            }
        }

        private int depth(Element each, Map<Element, Integer> depths, int level) {
            if (level > 100) {
                rule(false, 8, "no recursion (of " + each + ")");
                return level;
            }
            if (!depths.containsKey(each)) {
                int deepest = 0;
                for (Element target : calls.getOrDefault(each, Set.of())) {
                    deepest = Math.max(deepest, depth(target, depths, level + 1));
                }
                depths.put(each, deepest + 1);
            }
            return depths.get(each);
        }
    }
}

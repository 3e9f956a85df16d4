import com.sun.source.tree.AssertTree;
import com.sun.source.tree.BinaryTree;
import com.sun.source.tree.ClassTree;
import com.sun.source.tree.CompilationUnitTree;
import com.sun.source.tree.LambdaExpressionTree;
import com.sun.source.tree.LineMap;
import com.sun.source.tree.LiteralTree;
import com.sun.source.tree.MemberReferenceTree;
import com.sun.source.tree.MemberSelectTree;
import com.sun.source.tree.MethodInvocationTree;
import com.sun.source.tree.MethodTree;
import com.sun.source.tree.NewClassTree;
import com.sun.source.tree.SynchronizedTree;
import com.sun.source.tree.ThrowTree;
import com.sun.source.tree.Tree;
import com.sun.source.tree.TryTree;
import com.sun.source.tree.VariableTree;
import com.sun.source.util.JavacTask;
import com.sun.source.util.SourcePositions;
import com.sun.source.util.TreeScanner;
import com.sun.source.util.Trees;
import java.io.File;
import java.util.HashMap;
import java.util.HashSet;
import java.util.List;
import java.util.Map;
import java.util.Set;
import java.util.TreeSet;
import javax.lang.model.element.Modifier;
import javax.tools.JavaCompiler;
import javax.tools.StandardJavaFileManager;
import javax.tools.ToolProvider;

/** The rules of LANGUAGE.md that can be seen in the source: run from the project's directory. */
public final class RulesTest {
    private static final Set<String> LIBRARY = Set.of("System.arraycopy", "Arrays.fill", "Math.min", "Math.max",
        "Integer.bitCount", "LANGUAGE.length", "LANGUAGE.charAt");
    private static final Set<String> IMPORTS = Set.of("java.util.Arrays", "java.util.NoSuchElementException");
    private static final String[] FACE = {"feed", "text", "fault", "named", "node", "link", "far", "up", "held",
        "wants", "law", "listen", "cut", "send", "go", "ahead", "quiet", "settled", "way", "best", "least", "needed",
        "wide", "used", "rests", "rest", "holds", "note", "strike", "known", "costs", "ask", "chance", "tried", "undo",
        "keep", "back", "count"};

    private static int wrong = 0;

    private static void need(boolean holds, String what) {
        if (!holds) {
            wrong++;
            System.out.println(what);
        }
    }

    private static final class Look extends TreeScanner<Void, Void> {
        final CompilationUnitTree unit;
        final SourcePositions positions;
        final LineMap lines;
        final Map<String, Set<String>> calls = new HashMap<>();
        final Set<String> publics = new TreeSet<>();
        final Set<String> others = new TreeSet<>();
        int classes = 0;
        String method = "";

        Look(CompilationUnitTree unit, SourcePositions positions) {
            this.unit = unit;
            this.positions = positions;
            lines = unit.getLineMap();
        }

        long line(Tree tree, boolean end) {
            return lines.getLineNumber(end ? positions.getEndPosition(unit, tree) : positions.getStartPosition(unit, tree));
        }

        @Override
        public Void visitClass(ClassTree tree, Void none) {
            classes++;
            int fields = 0;
            Set<Modifier> how = tree.getModifiers().getFlags();
            need(classes == 1 || how.contains(Modifier.STATIC) && how.contains(Modifier.PRIVATE), "class " + tree.getSimpleName());
            for (Tree member : tree.getMembers()) {
                if (member instanceof VariableTree field) {
                    Set<Modifier> flags = field.getModifiers().getFlags();
                    if (flags.contains(Modifier.STATIC)) {
                        need(flags.contains(Modifier.FINAL), "static " + field.getName() + " isn't final");
                    } else {
                        fields++;
                    }
                    need(classes > 1 || flags.contains(Modifier.PRIVATE) || field.getName().contentEquals("NONE"), "field " + field.getName());
                }
            }
            need(fields <= 21, tree.getSimpleName() + " has " + fields + " fields");
            return super.visitClass(tree, none);
        }

        @Override
        public Void visitMethod(MethodTree tree, Void none) {
            long length = line(tree, true) - line(tree, false) + 1;
            String name = tree.getName().toString();
            need(length <= 60, name + " has " + length + " lines");
            need(tree.getParameters().size() <= 7, name + " has many parameters");
            if (tree.getModifiers().getFlags().contains(Modifier.PUBLIC)) {
                publics.add(name);
            } else if (!name.equals("<init>")) {
                others.add(name);
            }
            method = name;
            calls.putIfAbsent(name, new HashSet<>());
            return super.visitMethod(tree, none);
        }

        @Override
        public Void visitMethodInvocation(MethodInvocationTree tree, Void none) {
            String called = tree.getMethodSelect().toString();
            int dot = called.lastIndexOf('.');
            String owner = dot < 0 ? "" : called.substring(0, dot);
            calls.computeIfAbsent(method, m -> new HashSet<>()).add(called.substring(dot + 1));
            need(owner.isEmpty() || Character.isLowerCase(owner.charAt(0)) || LIBRARY.contains(called), "calls " + called);
            return super.visitMethodInvocation(tree, none);
        }

        @Override
        public Void visitThrow(ThrowTree tree, Void none) {
            need(method.equals("node") && tree.getExpression() instanceof NewClassTree, "throw in " + method);
            return super.visitThrow(tree, none);
        }

        @Override
        public Void visitBinary(BinaryTree tree, Void none) {
            boolean text = tree.getKind() == Tree.Kind.PLUS
                && (tree.getLeftOperand().getKind() == Tree.Kind.STRING_LITERAL || tree.getRightOperand().getKind() == Tree.Kind.STRING_LITERAL);
            need(!text, "texts joined by + in " + method);
            return super.visitBinary(tree, none);
        }

        @Override
        public Void visitLiteral(LiteralTree tree, Void none) {
            need(tree.getKind() != Tree.Kind.NULL_LITERAL && tree.getKind() != Tree.Kind.DOUBLE_LITERAL, "null or double in " + method);
            return null;
        }

        @Override
        public Void visitTry(TryTree tree, Void none) {
            need(false, "try in " + method);
            return null;
        }

        @Override
        public Void visitLambdaExpression(LambdaExpressionTree tree, Void none) {
            need(false, "lambda in " + method);
            return null;
        }

        @Override
        public Void visitMemberReference(MemberReferenceTree tree, Void none) {
            need(false, "method reference in " + method);
            return null;
        }

        @Override
        public Void visitSynchronized(SynchronizedTree tree, Void none) {
            need(false, "synchronized in " + method);
            return null;
        }

        @Override
        public Void visitAssert(AssertTree tree, Void none) {
            need(false, "assert in " + method);
            return null;
        }

        @Override
        public Void visitMemberSelect(MemberSelectTree tree, Void none) {
            need(!tree.toString().equals("System.out"), "prints");
            return super.visitMemberSelect(tree, none);
        }

        /** How deep calls go, by the methods' names; a name met again is recursion. */
        int depth(String name, Set<String> open) {
            if (open.contains(name)) {
                need(false, "recursion of " + name);
                return 1;
            }
            open.add(name);
            int deepest = 0;
            for (String next : calls.getOrDefault(name, Set.of())) {
                deepest = Math.max(deepest, depth(next, open));
            }
            open.remove(name);
            return deepest + 1;
        }
    }

    public static void main(String[] args) throws Exception {
        JavaCompiler compiler = ToolProvider.getSystemJavaCompiler();
        try (StandardJavaFileManager files = compiler.getStandardFileManager(null, null, null)) {
            JavacTask task = (JavacTask) compiler.getTask(null, files, null, List.of("-proc:none"), null,
                files.getJavaFileObjects(new File("src/main/java/GroupTrees.java")));
            CompilationUnitTree unit = task.parse().iterator().next();
            unit.getImports().forEach(i -> need(IMPORTS.contains(i.getQualifiedIdentifier().toString()), "imports " + i));
            Look look = new Look(unit, Trees.instance(task).getSourcePositions());
            look.scan(unit, null);
            need(look.classes <= 12, look.classes + " classes");
            Set<String> face = new TreeSet<>(List.of(FACE));
            face.add("<init>");
            need(look.publics.equals(face), "the face is " + look.publics);
            for (String name : look.others) {
                need(!face.contains(name), name + " bears a public method's name");
            }
            for (String name : FACE) {
                int depth = look.depth(name, new HashSet<>());
                need(depth <= 8, name + " goes " + depth + " deep");
            }
        }
        System.out.println(wrong == 0 ? "the rules are kept" : wrong + " rules are broken");
        if (wrong > 0) {
            System.exit(1);
        }
    }
}

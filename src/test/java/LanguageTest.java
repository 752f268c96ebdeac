import com.sun.source.tree.AssertTree;
import com.sun.source.tree.AssignmentTree;
import com.sun.source.tree.CatchTree;
import com.sun.source.tree.ClassTree;
import com.sun.source.tree.CompilationUnitTree;
import com.sun.source.tree.DoWhileLoopTree;
import com.sun.source.tree.ExpressionTree;
import com.sun.source.tree.ForLoopTree;
import com.sun.source.tree.IdentifierTree;
import com.sun.source.tree.InstanceOfTree;
import com.sun.source.tree.LambdaExpressionTree;
import com.sun.source.tree.LiteralTree;
import com.sun.source.tree.MemberReferenceTree;
import com.sun.source.tree.MemberSelectTree;
import com.sun.source.tree.MethodInvocationTree;
import com.sun.source.tree.MethodTree;
import com.sun.source.tree.NewArrayTree;
import com.sun.source.tree.NewClassTree;
import com.sun.source.tree.SynchronizedTree;
import com.sun.source.tree.ThrowTree;
import com.sun.source.tree.Tree;
import com.sun.source.tree.TryTree;
import com.sun.source.tree.TypeCastTree;
import com.sun.source.tree.VariableTree;
import com.sun.source.tree.WhileLoopTree;
import com.sun.source.util.JavacTask;
import com.sun.source.util.SourcePositions;
import com.sun.source.util.TreeScanner;
import com.sun.source.util.Trees;
import java.io.File;
import java.util.List;
import java.util.Map;
import java.util.Set;
import java.util.TreeMap;
import java.util.TreeSet;
import javax.lang.model.element.Modifier;
import javax.tools.JavaCompiler;
import javax.tools.StandardJavaFileManager;
import javax.tools.ToolProvider;

/** The rules of LANGUAGE.md that can be read off the program's text. The argument is the project's root. */
public final class LanguageTest {
    private static final Check CHECK = new Check("LanguageTest");
    private static final Set<String> FACE = Set.of("add", "clear", "run", "task", "queued", "noted", "state", "ready",
        "<init>");
    private static final Set<String> TYPES = Set.of("int", "long", "short", "byte", "char", "boolean", "void", "int[]",
        "long[]", "short[]", "byte[]", "char[]", "boolean[]");
    private static final Map<String, Set<String>> CALLS = new TreeMap<>();
    private static final Set<String> ARRAYS = new TreeSet<>();

    public static void main(String[] args) throws Exception {
        File file = new File(args.length > 0 ? args[0] : ".", "src/main/java/RendezvousDesk.java");
        JavaCompiler compiler = ToolProvider.getSystemJavaCompiler();
        try (StandardJavaFileManager files = compiler.getStandardFileManager(null, null, null)) {
            JavacTask task = (JavacTask) compiler.getTask(null, files, null, List.of("-proc:none"), null,
                files.getJavaFileObjects(file));
            for (CompilationUnitTree unit : task.parse()) {
                look(unit, Trees.instance(task).getSourcePositions());
            }
        }
        CHECK.end();
    }

    private static void rule(int number, String what, boolean kept) {
        CHECK.due("rule " + number + ", " + what, 1, kept ? 1 : 0);
    }

    private static void look(CompilationUnitTree unit, SourcePositions positions) {
        rule(1, "no package", unit.getPackage() == null);
        rule(3, "no import", unit.getImports().isEmpty());
        rule(1, "one class", unit.getTypeDecls().size() == 1);
        ClassTree type = (ClassTree) unit.getTypeDecls().get(0);
        rule(1, "public and final", type.getModifiers().getFlags().equals(Set.of(Modifier.PUBLIC, Modifier.FINAL)));
        int fields = 0;
        for (Tree member : type.getMembers()) {
            if (member instanceof VariableTree) {
                fields += lookAtField((VariableTree) member);
            } else if (member instanceof MethodTree) {
                lookAtMethod((MethodTree) member);
                long first = unit.getLineMap().getLineNumber(positions.getStartPosition(unit, member));
                long last = unit.getLineMap().getLineNumber(positions.getEndPosition(unit, member));
                rule(10, "the method in line " + first + " is short", last - first < 60);
            } else {
                rule(1, "a member of another kind", false);
            }
        }
        rule(10, "some forty fields: " + fields, fields <= 40);
        for (String name : CALLS.keySet()) {
            int deep = deep(name, new TreeSet<>());
            rule(8, "no recursion in " + name, deep < 1000);
            rule(10, "calls of " + name + " go " + deep + " deep", deep <= 6);
        }
    }

    private static int lookAtField(VariableTree field) {
        Set<Modifier> flags = field.getModifiers().getFlags();
        String type = field.getType().toString();
        rule(2, "the type of " + field.getName(), TYPES.contains(type));
        if (flags.contains(Modifier.STATIC)) {
            rule(5, field.getName() + " is a constant", flags.contains(Modifier.FINAL) && Set.of("int",
                "long").contains(type));
            return 0;
        }
        rule(1, field.getName() + " is private", flags.contains(Modifier.PRIVATE));
        if (type.endsWith("[]")) {
            ARRAYS.add(field.getName().toString());
            rule(4, field.getName() + " is made at once", field.getInitializer() instanceof NewArrayTree);
        }
        if (field.getInitializer() instanceof NewArrayTree) {
            NewArrayTree made = (NewArrayTree) field.getInitializer();
            Tree length = made.getDimensions().size() == 1 ? made.getDimensions().get(0) : null;
            rule(4, "the length of " + field.getName(), length instanceof LiteralTree || length instanceof IdentifierTree);
        }
        return 1;
    }

    private static void lookAtMethod(MethodTree method) {
        String name = method.getName().toString();
        Set<Modifier> flags = method.getModifiers().getFlags();
        boolean open = flags.contains(Modifier.PUBLIC);
        rule(1, name + " is of the face, or private", open == FACE.contains(name)
            && (open || flags.contains(Modifier.PRIVATE)));
        rule(10, name + " takes at most seven", method.getParameters().size() <= 7);
        for (VariableTree parameter : method.getParameters()) {
            rule(2, "the type of " + parameter.getName() + " in " + name, TYPES.contains(parameter.getType().toString()));
        }
        Tree answer = method.getReturnType();
        rule(4, name + " answers no array", answer == null || TYPES.contains(answer.toString())
            && !answer.toString().contains("["));
        rule(6, name + " throws nothing", method.getThrows().isEmpty());
        Set<String> called = new TreeSet<>();
        CALLS.put(name, called);
        method.getBody().accept(new Body(name, called), null);
    }

    /** How many methods stand in the longest chain of calls that begins here. */
    private static int deep(String name, Set<String> above) {
        if (above.contains(name)) {
            return 1000;
        }
        above.add(name);
        int most = 0;
        for (String called : CALLS.getOrDefault(name, Set.of())) {
            most = Math.max(most, deep(called, above));
        }
        above.remove(name);
        return most + 1;
    }

    /** Goes through a method's body. */
    private static final class Body extends TreeScanner<Void, Void> {
        private final String name;
        private final Set<String> called;
        private int inArguments = 0;

        Body(String name, Set<String> called) {
            this.name = name;
            this.called = called;
        }

        private Void never(int number, String what) {
            rule(number, what + " in " + name, false);
            return null;
        }

        @Override
        public Void visitMethodInvocation(MethodInvocationTree node, Void nothing) {
            rule(10, "no call in the arguments of a call in " + name, inArguments == 0);
            rule(3, "only its own methods are called in " + name, node.getMethodSelect() instanceof IdentifierTree);
            called.add(node.getMethodSelect().toString());
            inArguments++;
            for (ExpressionTree argument : node.getArguments()) {
                argument.accept(this, null);
            }
            inArguments--;
            return null;
        }

        @Override
        public Void visitVariable(VariableTree node, Void nothing) {
            rule(2, "the type of " + node.getName() + " in " + name, TYPES.contains(node.getType().toString()));
            return super.visitVariable(node, nothing);
        }

        @Override
        public Void visitLiteral(LiteralTree node, Void nothing) {
            rule(2, "a literal in " + name, Set.of(Tree.Kind.INT_LITERAL, Tree.Kind.LONG_LITERAL,
                Tree.Kind.CHAR_LITERAL, Tree.Kind.BOOLEAN_LITERAL).contains(node.getKind()));
            return null;
        }

        @Override
        public Void visitWhileLoop(WhileLoopTree node, Void nothing) {
            return never(8, "a loop without a counter");
        }

        @Override
        public Void visitDoWhileLoop(DoWhileLoopTree node, Void nothing) {
            return never(8, "a loop without a counter");
        }

        @Override
        public Void visitForLoop(ForLoopTree node, Void nothing) {
            rule(8, "a loop with a bound and a counter in " + name, node.getCondition() != null
                && node.getUpdate().size() == 1
                && node.getInitializer().size() == 1);
            return super.visitForLoop(node, nothing);
        }

        @Override
        public Void visitAssignment(AssignmentTree node, Void nothing) {
            rule(4, "no array is assigned in " + name, !ARRAYS.contains(node.getVariable().toString()));
            return super.visitAssignment(node, nothing);
        }

        @Override
        public Void visitTypeCast(TypeCastTree node, Void nothing) {
            rule(6, "casts between numbers alone in " + name, TYPES.contains(node.getType().toString()));
            return super.visitTypeCast(node, nothing);
        }

        @Override
        public Void visitMemberSelect(MemberSelectTree node, Void nothing) {
            return never(3, "a member of something");
        }

        @Override
        public Void visitNewArray(NewArrayTree node, Void nothing) {
            return never(4, "new");
        }

        @Override
        public Void visitNewClass(NewClassTree node, Void nothing) {
            return never(4, "new");
        }

        @Override
        public Void visitThrow(ThrowTree node, Void nothing) {
            return never(6, "throw");
        }

        @Override
        public Void visitTry(TryTree node, Void nothing) {
            return never(6, "try");
        }

        @Override
        public Void visitCatch(CatchTree node, Void nothing) {
            return never(6, "catch");
        }

        @Override
        public Void visitSynchronized(SynchronizedTree node, Void nothing) {
            return never(6, "synchronized");
        }

        @Override
        public Void visitAssert(AssertTree node, Void nothing) {
            return never(6, "assert");
        }

        @Override
        public Void visitInstanceOf(InstanceOfTree node, Void nothing) {
            return never(6, "instanceof");
        }

        @Override
        public Void visitLambdaExpression(LambdaExpressionTree node, Void nothing) {
            return never(6, "lambda");
        }

        @Override
        public Void visitMemberReference(MemberReferenceTree node, Void nothing) {
            return never(6, "method reference");
        }

        @Override
        public Void visitClass(ClassTree node, Void nothing) {
            return never(1, "a class");
        }
    }
}

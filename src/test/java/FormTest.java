import com.sun.source.tree.AssignmentTree;
import com.sun.source.tree.BinaryTree;
import com.sun.source.tree.ClassTree;
import com.sun.source.tree.CompilationUnitTree;
import com.sun.source.tree.CompoundAssignmentTree;
import com.sun.source.tree.DoWhileLoopTree;
import com.sun.source.tree.ExpressionTree;
import com.sun.source.tree.ForLoopTree;
import com.sun.source.tree.MemberSelectTree;
import com.sun.source.tree.MethodInvocationTree;
import com.sun.source.tree.MethodTree;
import com.sun.source.tree.NewArrayTree;
import com.sun.source.tree.Tree;
import com.sun.source.tree.Tree.Kind;
import com.sun.source.tree.TypeCastTree;
import com.sun.source.tree.VariableTree;
import com.sun.source.tree.WhileLoopTree;
import com.sun.source.util.JavacTask;
import com.sun.source.util.SourcePositions;
import com.sun.source.util.TreeScanner;
import com.sun.source.util.Trees;
import java.nio.file.Path;
import java.util.ArrayList;
import java.util.EnumSet;
import java.util.List;
import java.util.Map;
import java.util.Set;
import java.util.TreeMap;
import java.util.TreeSet;
import javax.lang.model.element.Modifier;
import javax.tools.JavaCompiler;
import javax.tools.StandardJavaFileManager;
import javax.tools.ToolProvider;

/**
 * The rules of LANGUAGE.md that can be read off the source; that no index is out of its range and no
 * call fails to end (rules 7 and 8) is left to the tests that run it. What the rules give as 'some'
 * is taken a little wider; where they name an easiest way, that one alone is let pass.
 */
public final class FormTest {
    private static final Path PROGRAM = Path.of("src/main/java/TerminalStack.java");
    private static final Set<String> TYPES = Set.of("int", "long", "short", "byte", "char", "boolean");
    private static final int MOST_CALLS_DEEP = 6;
    private static final int MOST_LINES = 70;
    private static final int MOST_FIELDS = 45;
    private static final int MOST_PARAMETERS = 7;

    /** Rules 2, 3, 4 and 6: no text, no null, no object, nothing of the library, no exceptions. */
    private static final Set<Kind> NEVER = EnumSet.of(Kind.STRING_LITERAL, Kind.NULL_LITERAL, Kind.FLOAT_LITERAL, Kind.DOUBLE_LITERAL,
        Kind.NEW_CLASS, Kind.MEMBER_REFERENCE, Kind.LAMBDA_EXPRESSION, Kind.ANNOTATION, Kind.IMPORT,
        Kind.THROW, Kind.TRY, Kind.SYNCHRONIZED, Kind.ASSERT, Kind.INSTANCE_OF);

    private static final Set<Kind> DIVISIONS = EnumSet.of(Kind.DIVIDE, Kind.REMAINDER, Kind.DIVIDE_ASSIGNMENT, Kind.REMAINDER_ASSIGNMENT);
    private static final Set<Modifier> OF_METHODS = EnumSet.of(Modifier.PUBLIC, Modifier.PRIVATE, Modifier.STATIC);

    private static final Set<String> CONSTANTS = new TreeSet<>();
    /** The fields, parameters and local variables that name an array. */
    private static final Set<String> ARRAYS = new TreeSet<>();
    /** The methods that each method calls, by name and number of parameters. */
    private static final Map<String, Set<String>> CALLED = new TreeMap<>();

    private static void rule(String what, boolean kept) {
        Check.due("rule " + what, kept, true);
    }

    private static final class Everywhere extends TreeScanner<Void, Void> {
        private String name = "";
        private String method = "";
        private boolean inArguments = false;

        @Override
        public Void scan(Tree tree, Void nothing) {
            if (tree != null) {
                rule("2, 3, 4 or 6: " + tree.getKind() + " " + tree, !NEVER.contains(tree.getKind()));
            }
            return super.scan(tree, nothing);
        }

        @Override
        public Void visitMethod(MethodTree tree, Void nothing) {
            name = tree.getName().toString();
            method = name + "/" + tree.getParameters().size();
            CALLED.put(method, new TreeSet<>());
            super.visitMethod(tree, nothing);
            name = "";
            return null;
        }

        @Override
        public Void visitMethodInvocation(MethodInvocationTree tree, Void nothing) {
            rule("10, no call inside the arguments of another: " + tree, !inArguments);
            rule("4 and 5, no call makes a field's first value: " + tree, !name.isEmpty());
            String called = tree.getMethodSelect().toString().replace("this.", "");
            CALLED.computeIfAbsent(method, any -> new TreeSet<>()).add(called + "/" + tree.getArguments().size());
            inArguments = true;
            super.visitMethodInvocation(tree, nothing);
            inArguments = false;
            return null;
        }

        @Override
        public Void visitMemberSelect(MemberSelectTree tree, Void nothing) {
            boolean own = Set.of("this", "TerminalStack").contains(tree.getExpression().toString());
            rule("3, of this class or an array's length: " + tree, own || tree.getIdentifier().contentEquals("length"));
            return super.visitMemberSelect(tree, nothing);
        }

        @Override
        public Void visitVariable(VariableTree tree, Void nothing) {
            rule("2, the type of " + tree, TYPES.contains(tree.getType().toString().replaceFirst("\\[\\]$", "")));
            if (tree.getType().toString().endsWith("[]")) {
                ARRAYS.add(tree.getName().toString());
            }
            return super.visitVariable(tree, nothing);
        }

        @Override
        public Void visitNewArray(NewArrayTree tree, Void nothing) {
            rule("4, arrays are made in the fields' initialisers: " + tree, name.isEmpty());
            rule("4, an array with one length: " + tree, tree.getDimensions().size() == 1);
            for (ExpressionTree length : tree.getDimensions()) {
                rule("4, a length that is a literal or a constant: " + tree, isFixed(length));
            }
            return super.visitNewArray(tree, nothing);
        }

        @Override
        public Void visitAssignment(AssignmentTree tree, Void nothing) {
            rule("4, what names an array goes on naming it: " + tree, !isArray(tree.getVariable()));
            return super.visitAssignment(tree, nothing);
        }

        @Override
        public Void visitBinary(BinaryTree tree, Void nothing) {
            rule("4, no array is compared: " + tree, !isArray(tree.getLeftOperand()) && !isArray(tree.getRightOperand()));
            lookAtDivisor(tree, tree.getRightOperand());
            return super.visitBinary(tree, nothing);
        }

        @Override
        public Void visitCompoundAssignment(CompoundAssignmentTree tree, Void nothing) {
            lookAtDivisor(tree, tree.getExpression());
            return super.visitCompoundAssignment(tree, nothing);
        }

        private void lookAtDivisor(Tree tree, ExpressionTree right) {
            rule("7, a divisor that is not 0: " + tree, !DIVISIONS.contains(tree.getKind()) || isFixed(right));
        }

        @Override
        public Void visitTypeCast(TypeCastTree tree, Void nothing) {
            rule("6, a cast between numbers: " + tree, TYPES.contains(tree.getType().toString()));
            return super.visitTypeCast(tree, nothing);
        }

        private boolean isArray(ExpressionTree tree) {
            return ARRAYS.contains(tree.toString().replace("this.", ""));
        }

        /** A literal, but not 0, or one of the constants. */
        private boolean isFixed(ExpressionTree tree) {
            boolean literal = tree.getKind() == Kind.INT_LITERAL && !tree.toString().equals("0");
            return literal || CONSTANTS.contains(tree.toString());
        }

        private void lookAtEnd(Tree loop, ExpressionTree condition) {
            boolean endless = condition == null || condition.toString().replaceAll("[()]", "").equals("true");
            rule("8, the end of a loop can be seen: " + loop, !endless);
        }

        @Override
        public Void visitForLoop(ForLoopTree tree, Void nothing) {
            lookAtEnd(tree, tree.getCondition());
            return super.visitForLoop(tree, nothing);
        }

        @Override
        public Void visitWhileLoop(WhileLoopTree tree, Void nothing) {
            lookAtEnd(tree, tree.getCondition());
            return super.visitWhileLoop(tree, nothing);
        }

        @Override
        public Void visitDoWhileLoop(DoWhileLoopTree tree, Void nothing) {
            lookAtEnd(tree, tree.getCondition());
            return super.visitDoWhileLoop(tree, nothing);
        }
    }

    /** Answers 1 for a field that counts beside the constants. */
    private static int lookAtField(VariableTree field) {
        Set<Modifier> modifiers = field.getModifiers().getFlags();
        String type = field.getType().toString();
        if (modifiers.contains(Modifier.STATIC)) {
            rule("5, a constant: " + field, modifiers.contains(Modifier.FINAL) && (type.equals("int") || type.equals("long")));
            CONSTANTS.add(field.getName().toString());
            return 0;
        }
        rule("1, private: " + field, modifiers.contains(Modifier.PRIVATE));
        if (type.endsWith("[]")) {
            rule("4, made here and once: " + field, field.getInitializer() instanceof NewArrayTree);
        }
        return 1;
    }

    private static void lookAtMethod(MethodTree method, long lines) {
        String name = method.getName().toString();
        rule("10, " + name + " has " + lines + " lines", lines <= MOST_LINES);
        rule("10, parameters of " + name, method.getParameters().size() <= MOST_PARAMETERS);
        rule("6, " + name + " throws nothing", method.getThrows().isEmpty());
        rule("6, " + name + " is nothing but public or private, perhaps static", OF_METHODS.containsAll(method.getModifiers().getFlags()));
        rule("4, " + name + " answers no array", !String.valueOf(method.getReturnType()).endsWith("]"));
    }

    private static void lookAtMembers(ClassTree type, CompilationUnitTree unit, SourcePositions places) {
        int fields = 0;
        Set<String> open = new TreeSet<>();
        Set<String> closed = new TreeSet<>();
        for (Tree member : type.getMembers()) {
            if (member instanceof VariableTree) {
                fields += lookAtField((VariableTree) member);
            } else if (member instanceof MethodTree) {
                MethodTree method = (MethodTree) member;
                long first = unit.getLineMap().getLineNumber(places.getStartPosition(unit, member));
                long last = unit.getLineMap().getLineNumber(places.getEndPosition(unit, member));
                lookAtMethod(method, last - first + 1);
                boolean isOpen = method.getModifiers().getFlags().contains(Modifier.PUBLIC);
                (isOpen ? open : closed).add(method.getName().toString());
            } else {
                rule("1 or 5, no nested class and no initialiser: " + member, false);
            }
        }
        rule("10, the class has " + fields + " fields", fields <= MOST_FIELDS);
        closed.retainAll(open);
        rule("1, no private method bears the name of a public one: " + closed, closed.isEmpty());
    }

    /** How many methods the longest chain has that begins with these methods and goes on with this one. */
    private static int callsDeep(List<String> chain, String method) {
        int deepest = chain.size() + 1;
        rule("8, no recursion: " + chain + " " + method, !chain.contains(method));
        if (!chain.contains(method)) {
            List<String> longer = new ArrayList<>(chain);
            longer.add(method);
            for (String called : CALLED.getOrDefault(method, Set.of())) {
                deepest = Math.max(deepest, callsDeep(longer, called));
            }
        }
        return deepest;
    }

    public static void main(String[] args) throws Exception {
        JavaCompiler compiler = ToolProvider.getSystemJavaCompiler();
        try (StandardJavaFileManager files = compiler.getStandardFileManager(null, null, null)) {
            JavacTask task = (JavacTask) compiler.getTask(null, files, null, null, null, files.getJavaFileObjects(PROGRAM));
            CompilationUnitTree unit = task.parse().iterator().next();
            rule("1, no package line", unit.getPackageName() == null);
            rule("1, one class", unit.getTypeDecls().size() == 1);
            lookAtMembers((ClassTree) unit.getTypeDecls().get(0), unit, Trees.instance(task).getSourcePositions());
            new Everywhere().scan(unit, null);
        }
        for (String method : CALLED.keySet()) {
            rule("3, " + method + " calls methods of this class alone", CALLED.keySet().containsAll(CALLED.get(method)));
            int deep = callsDeep(List.of(), method);
            rule("10, calls from " + method + " go " + deep + " deep", deep <= MOST_CALLS_DEEP);
        }
        Check.end();
    }
}

import com.sun.source.tree.ClassTree;
import com.sun.source.tree.CompilationUnitTree;
import com.sun.source.tree.ForLoopTree;
import com.sun.source.tree.MethodInvocationTree;
import com.sun.source.tree.MethodTree;
import com.sun.source.tree.NewArrayTree;
import com.sun.source.tree.Tree;
import com.sun.source.tree.Tree.Kind;
import com.sun.source.tree.VariableTree;
import com.sun.source.util.JavacTask;
import com.sun.source.util.SourcePositions;
import com.sun.source.util.TreeScanner;
import com.sun.source.util.Trees;
import java.nio.file.Path;
import java.util.ArrayList;
import java.util.EnumSet;
import java.util.List;
import java.util.Map;
import java.util.Set;
import java.util.TreeMap;
import java.util.TreeSet;
import javax.lang.model.element.Modifier;
import javax.tools.JavaCompiler;
import javax.tools.StandardJavaFileManager;
import javax.tools.ToolProvider;

/**
 * The rules of LANGUAGE.md that can be read off the source, rule 7 (no call throws) being left to
 * the tests that run it. Where a rule allows more than this program has, the test may be stricter.
 */
public final class FormTest {
    private static final Path PROGRAM = Path.of("src/main/java/TerminalStack.java");
    private static final Set<String> TYPES = Set.of("int", "long", "short", "byte", "char", "boolean");
    private static final int MOST_DEEP = 6;
    private static final int MOST_LINES = 60;
    private static final int MOST_FIELDS = 40;
    private static final int MOST_PARAMETERS = 7;

    /** Rules 2 to 4, 6 and 8: no text, no null, no object, nothing of another class, no loop but for. */
    private static final Set<Kind> NEVER = EnumSet.of(Kind.STRING_LITERAL, Kind.NULL_LITERAL, Kind.FLOAT_LITERAL, Kind.DOUBLE_LITERAL,
        Kind.NEW_CLASS, Kind.MEMBER_SELECT, Kind.MEMBER_REFERENCE, Kind.LAMBDA_EXPRESSION, Kind.ANNOTATION, Kind.IMPORT,
        Kind.THROW, Kind.TRY, Kind.SYNCHRONIZED, Kind.ASSERT, Kind.INSTANCE_OF,
        Kind.WHILE_LOOP, Kind.DO_WHILE_LOOP, Kind.ENHANCED_FOR_LOOP);

    /** The methods that each method calls. */
    private static final Map<String, Set<String>> CALLED = new TreeMap<>();

    private static void rule(String what, boolean kept) {
        Check.due("rule " + what, kept, true);
    }

    private static final class Everywhere extends TreeScanner<Void, Void> {
        private String method = "";
        private boolean inArguments = false;

        @Override
        public Void scan(Tree tree, Void nothing) {
            if (tree != null) {
                rule("2, 3, 4, 6 or 8: " + tree.getKind() + " " + tree, !NEVER.contains(tree.getKind()));
            }
            return super.scan(tree, nothing);
        }

        @Override
        public Void visitMethod(MethodTree tree, Void nothing) {
            method = tree.getName().toString();
            CALLED.put(method, new TreeSet<>());
            super.visitMethod(tree, nothing);
            method = "";
            return null;
        }

        @Override
        public Void visitMethodInvocation(MethodInvocationTree tree, Void nothing) {
            rule("10, no call inside the arguments of another: " + tree, !inArguments);
            CALLED.get(method).add(tree.getMethodSelect().toString());
            boolean outer = inArguments;
            inArguments = true;
            super.visitMethodInvocation(tree, nothing);
            inArguments = outer;
            return null;
        }

        @Override
        public Void visitVariable(VariableTree tree, Void nothing) {
            rule("2, the type of " + tree, TYPES.contains(tree.getType().toString().replaceFirst("\\[\\]$", "")));
            return super.visitVariable(tree, nothing);
        }

        @Override
        public Void visitNewArray(NewArrayTree tree, Void nothing) {
            rule("4, made in a field's initialiser: " + tree, method.isEmpty());
            rule("4, with a length that is a literal or a constant: " + tree, tree.getDimensions().toString().matches("[A-Z0-9_]+"));
            return super.visitNewArray(tree, nothing);
        }

        @Override
        public Void visitForLoop(ForLoopTree tree, Void nothing) {
            Set<Kind> comparisons = EnumSet.of(Kind.LESS_THAN, Kind.GREATER_THAN_EQUAL);
            boolean bounded = tree.getCondition() != null && comparisons.contains(tree.getCondition().getKind());
            rule("8, a counter against a bound: " + tree, bounded && tree.getUpdate().toString().matches("\\w+(\\+\\+|--);"));
            return super.visitForLoop(tree, nothing);
        }
    }

    /** Answers 1 for a field that counts beside the constants. */
    private static int lookAtField(VariableTree field) {
        Set<Modifier> modifiers = field.getModifiers().getFlags();
        String type = field.getType().toString();
        boolean fixed = modifiers.contains(Modifier.FINAL);
        if (modifiers.contains(Modifier.STATIC)) {
            rule("5, a constant: " + field, fixed && (type.equals("int") || type.equals("long")));
            return 0;
        }
        rule("1, private: " + field, modifiers.contains(Modifier.PRIVATE));
        rule("4, an array that no method can change for another: " + field, fixed || !type.endsWith("[]"));
        return 1;
    }

    private static void lookAtMethod(MethodTree method, long lines) {
        String name = method.getName().toString();
        rule("10, " + name + " has " + lines + " lines", lines <= MOST_LINES);
        rule("10, parameters of " + name, method.getParameters().size() <= MOST_PARAMETERS);
        rule("6, " + name + " throws nothing", method.getThrows().isEmpty());
        rule("4, " + name + " answers no array", !String.valueOf(method.getReturnType()).endsWith("]"));
    }

    private static void lookAtMembers(ClassTree type, CompilationUnitTree unit, SourcePositions places) {
        int fields = 0;
        Set<String> names = new TreeSet<>();
        for (Tree member : type.getMembers()) {
            if (member instanceof VariableTree) {
                fields += lookAtField((VariableTree) member);
            } else if (member instanceof MethodTree) {
                MethodTree method = (MethodTree) member;
                long first = unit.getLineMap().getLineNumber(places.getStartPosition(unit, member));
                long last = unit.getLineMap().getLineNumber(places.getEndPosition(unit, member));
                lookAtMethod(method, last - first + 1);
                rule("1, one method of a name: " + method.getName(), names.add(method.getName().toString()));
            } else {
                rule("1 or 5, a nested class or an initialiser: " + member, false);
            }
        }
        rule("10, the class has " + fields + " fields", fields <= MOST_FIELDS);
    }

    /** How many methods stand in the longest chain of calls that begins with this one and goes on with a method. */
    private static int depth(List<String> chain, String method) {
        List<String> longer = new ArrayList<>(chain);
        longer.add(method);
        rule("8, no recursion: " + longer, !chain.contains(method));
        int deepest = longer.size();
        if (!chain.contains(method)) {
            for (String called : CALLED.get(method)) {
                deepest = Math.max(deepest, depth(longer, called));
            }
        }
        return deepest;
    }

    public static void main(String[] args) throws Exception {
        JavaCompiler compiler = ToolProvider.getSystemJavaCompiler();
        try (StandardJavaFileManager files = compiler.getStandardFileManager(null, null, null)) {
            JavacTask task = (JavacTask) compiler.getTask(null, files, null, null, null, files.getJavaFileObjects(PROGRAM));
            CompilationUnitTree unit = task.parse().iterator().next();
            rule("1, no package line", unit.getPackageName() == null);
            rule("1, one class", unit.getTypeDecls().size() == 1);
            lookAtMembers((ClassTree) unit.getTypeDecls().get(0), unit, Trees.instance(task).getSourcePositions());
            new Everywhere().scan(unit, null);
        }
        for (String method : CALLED.keySet()) {
            int deepest = depth(List.of(), method);
            rule("10, calls from " + method + " go " + deepest + " deep", deepest <= MOST_DEEP);
        }
        Check.end();
    }
}

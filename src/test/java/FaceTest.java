import java.lang.reflect.Constructor;
import java.lang.reflect.Field;
import java.lang.reflect.Member;
import java.lang.reflect.Method;
import java.lang.reflect.Modifier;
import java.util.Set;
import java.util.TreeSet;

/** The public face: just the members that the document lists (LANGUAGE.md, rules 1 and 5). */
public final class FaceTest {
    private static final Set<String> FACE = new TreeSet<>(Set.of(
        "BAD", "TerminalStack",
        "boolean feed(int)", "boolean feedThree(int)",
        "int sign(int,int)", "int style(int,int)",
        "int row()", "int column()", "boolean waits()", "int pen()", "int region()",
        "int modes()", "int sequence()", "int keptRows()", "int kept(int,int)",
        "int refresh()", "int shown(int,int)", "int stale()"));

    /** Whether more than the class itself sees it; then it must be public. */
    private static boolean isOpen(Member member) {
        boolean open = !Modifier.isPrivate(member.getModifiers());
        if (open) {
            Check.due(member.getName() + " is public", Modifier.isPublic(member.getModifiers()), true);
        }
        return open;
    }

    private static String signature(Method method) {
        StringBuilder text = new StringBuilder();
        for (Class<?> parameter : method.getParameterTypes()) {
            text.append(text.length() == 0 ? "" : ",").append(parameter.getName());
        }
        return method.getReturnType().getName() + " " + method.getName() + "(" + text + ")";
    }

    public static void main(String[] args) {
        Set<String> open = new TreeSet<>();
        for (Field field : TerminalStack.class.getDeclaredFields()) {
            if (isOpen(field)) {
                open.add(field.getName());
            }
            if (Modifier.isStatic(field.getModifiers())) {
                boolean constant = Modifier.isFinal(field.getModifiers())
                    && (field.getType() == int.class || field.getType() == long.class);
                Check.due(field.getName() + " is a constant number", constant, true);
            }
        }
        for (Constructor<?> constructor : TerminalStack.class.getDeclaredConstructors()) {
            if (isOpen(constructor)) {
                open.add(constructor.getName());
                Check.due("parameters of the constructor", constructor.getParameterCount(), 0);
            }
        }
        for (Method method : TerminalStack.class.getDeclaredMethods()) {
            if (isOpen(method)) {
                open.add(signature(method));
                Check.due(method.getName() + " is static", Modifier.isStatic(method.getModifiers()), false);
            }
        }
        Check.due("the open members", open, FACE);
        Check.due("BAD", TerminalStack.BAD, -1);
        Check.due("public", Modifier.isPublic(TerminalStack.class.getModifiers()), true);
        Check.due("final", Modifier.isFinal(TerminalStack.class.getModifiers()), true);
        Check.end();
    }
}

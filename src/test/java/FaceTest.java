import java.lang.reflect.Field;
import java.lang.reflect.Member;
import java.lang.reflect.Method;
import java.lang.reflect.Modifier;
import java.util.Set;
import java.util.TreeSet;

/** The public face is the document's, and nothing beside it can be seen (LANGUAGE.md, rules 1, 2 and 11). */
public final class FaceTest {
    private static final String[] FACE = {
        "say int", "wipe", "fault int", "word int", "sheet int", "take int", "stand int int", "lay int int",
        "set int int", "needs int int", "judge int", "orders", "first int", "most int", "changes int",
        "loans int", "presses", "melt int", "seen int int", "fits", "ahead int int", "known int int",
        "knownOf int int", "image int", "restore int", "told int"};
    private static final String[] CONSTANTS = {"UNKNOWN", "OUTSIDE", "STATE", "FULL", "NO", "NONE"};

    public static void main(String[] args) {
        int flags = LeadPress.class.getModifiers();
        Due.due("public and final", Modifier.isPublic(flags) && Modifier.isFinal(flags) ? 1 : 0, 1);
        Due.due("one public constructor", LeadPress.class.getConstructors().length, 1);
        Due.due("one constructor", LeadPress.class.getDeclaredConstructors().length, 1);
        methods();
        fields();
        Class<?>[] inside = LeadPress.class.getDeclaredClasses();
        Due.due("some twelve classes", inside.length <= 12 ? 1 : 0, 1);
        for (Class<?> one : inside) {
            int its = one.getModifiers();
            boolean hidden = !Modifier.isPublic(its) && !Modifier.isProtected(its);
            Due.due(one + " is static and hidden", hidden && Modifier.isStatic(its) ? 1 : 0, 1);
        }
        Due.end();
    }

    private static void methods() {
        Set<String> want = new TreeSet<>();
        Set<String> names = new TreeSet<>();
        for (String line : FACE) {
            want.add(line);
            names.add(line.split(" ")[0]);
        }
        Set<String> got = new TreeSet<>();
        for (Method method : LeadPress.class.getDeclaredMethods()) {
            if (isSeen(method)) {
                StringBuilder line = new StringBuilder(method.getName());
                for (Class<?> type : method.getParameterTypes()) {
                    line.append(' ').append(type.getName());
                }
                got.add(line.toString());
                boolean plain = method.getReturnType() == int.class && !Modifier.isStatic(method.getModifiers());
                Due.due(method + " answers an int", plain ? 1 : 0, 1);
            } else {
                Due.due(method + " has a name of its own", names.contains(method.getName()) ? 1 : 0, 0);
            }
        }
        Due.due("the methods " + got, got.equals(want) ? 1 : 0, 1);
    }

    private static void fields() {
        Set<String> want = Set.of(CONSTANTS);
        Set<String> got = new TreeSet<>();
        for (Field field : LeadPress.class.getDeclaredFields()) {
            int its = field.getModifiers();
            if (isSeen(field)) {
                got.add(field.getName());
                boolean constant = Modifier.isStatic(its) && Modifier.isFinal(its) && field.getType() == int.class;
                Due.due(field + " is a constant", constant ? 1 : 0, 1);
            }
            Due.due(field + " is final, if static", Modifier.isStatic(its) && !Modifier.isFinal(its) ? 1 : 0, 0);
        }
        Due.due("the constants " + got, got.equals(want) ? 1 : 0, 1);
    }

    private static boolean isSeen(Member member) {
        return !Modifier.isPrivate(member.getModifiers()) && !member.isSynthetic();
    }
}

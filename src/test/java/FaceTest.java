import java.lang.reflect.Field;
import java.lang.reflect.Member;
import java.lang.reflect.Method;
import java.lang.reflect.Modifier;
import java.util.Arrays;
import java.util.Set;
import java.util.TreeSet;

/** The public face: just what the document names, and nothing more that others could see. */
final class FaceTest {
    private static final Checks CHECKS = new Checks("FaceTest");
    private static final String[] METHODS = {
        "exchange(int,int)", "reverse()", "readMove()", "sell(int)", "punch(int,int)", "forge(int,int,boolean)",
        "mend(int)", "turn(int,int)", "stack(int,boolean)", "turnStack(int)", "type(char)", "clearText()",
        "fault(int)", "undo()", "keep()", "restore()", "place(int,int)", "move(int)", "power(int,int)",
        "ticket(int,int)", "alikeIn(int,int)", "meetsIn(int,int)", "reason(int,int)", "kin(int)", "light()",
        "bestTurn(int,int)", "count(int)",
    };
    private static final String[] CONSTANTS = {"UNKNOWN", "BAD_VALUE", "FULL", "NOT_POSSIBLE", "NONE"};

    public static void main(String[] args) {
        theConstants();
        theMethods();
        theFieldsAndClasses();
        CHECKS.finish();
    }

    private static void theConstants() {
        CHECKS.due("UNKNOWN", HoleTickets.UNKNOWN, -1);
        CHECKS.due("BAD_VALUE", HoleTickets.BAD_VALUE, -2);
        CHECKS.due("FULL", HoleTickets.FULL, -3);
        CHECKS.due("NOT_POSSIBLE", HoleTickets.NOT_POSSIBLE, -4);
        CHECKS.due("NONE", HoleTickets.NONE, -5);
    }

    private static void theMethods() {
        Set<String> seen = new TreeSet<>();
        Set<String> names = new TreeSet<>();
        for (Method method : HoleTickets.class.getDeclaredMethods()) {
            if (!Modifier.isPrivate(method.getModifiers())) {
                seen.add(signature(method));
                names.add(method.getName());
                CHECKS.due(method + " answers an int", method.getReturnType() == int.class ? 1 : 0, 1);
            }
        }
        CHECKS.same("the public methods", seen.toString(), new TreeSet<>(Arrays.asList(METHODS)).toString());
        for (Class<?> type : HoleTickets.class.getDeclaredClasses()) {
            for (Method method : type.getDeclaredMethods()) {
                CHECKS.due(method + " bears a name of its own", names.contains(method.getName()) ? 0 : 1, 1);
            }
        }
        for (Method method : HoleTickets.class.getDeclaredMethods()) {
            if (Modifier.isPrivate(method.getModifiers())) {
                CHECKS.due(method + " bears a name of its own", names.contains(method.getName()) ? 0 : 1, 1);
            }
        }
    }

    private static String signature(Method method) {
        StringBuilder signature = new StringBuilder(method.getName()).append('(');
        for (Class<?> type : method.getParameterTypes()) {
            signature.append(signature.charAt(signature.length() - 1) == '(' ? "" : ",").append(type.getName());
        }
        return signature.append(')').toString();
    }

    private static void theFieldsAndClasses() {
        Class<?> face = HoleTickets.class;
        CHECKS.due("public and final", face.getModifiers(), Modifier.PUBLIC | Modifier.FINAL);
        CHECKS.due("one constructor", face.getDeclaredConstructors().length, 1);
        CHECKS.due("it is public", isPublic(face.getDeclaredConstructors()[0]), 1);
        Set<String> constants = new TreeSet<>();
        for (Field field : face.getDeclaredFields()) {
            if (!Modifier.isPrivate(field.getModifiers())) {
                constants.add(field.getName());
                CHECKS.due(field + " is public", isPublic(field), 1);
            }
            if (Modifier.isStatic(field.getModifiers())) {
                CHECKS.due(field + " is final", Modifier.isFinal(field.getModifiers()) ? 1 : 0, 1);
            }
        }
        CHECKS.same("the constants", constants.toString(), new TreeSet<>(Arrays.asList(CONSTANTS)).toString());
        CHECKS.due("at most twelve classes", face.getDeclaredClasses().length < 12 ? 1 : 0, 1);
        for (Class<?> type : face.getDeclaredClasses()) {
            int modifiers = type.getModifiers();
            CHECKS.due(type + " is static", Modifier.isStatic(modifiers) ? 1 : 0, 1);
            CHECKS.due(type + " is hidden", Modifier.isPublic(modifiers) || Modifier.isProtected(modifiers) ? 1 : 0, 0);
        }
    }

    private static int isPublic(Member member) {
        return Modifier.isPublic(member.getModifiers()) ? 1 : 0;
    }
}

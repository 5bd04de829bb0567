import java.lang.reflect.Constructor;
import java.lang.reflect.Field;
import java.lang.reflect.Method;
import java.lang.reflect.Modifier;
import java.util.Arrays;
import java.util.Set;
import java.util.TreeSet;

/** The public face: the members that the document names, with their exceptions, and no others. */
public final class FaceTest {
    private static final String NO = " throws NoSuchElementException";
    private static final String BAD = " throws IllegalArgumentException";
    private static final String BOTH = " throws NoSuchElementException IllegalArgumentException";
    private static final String[] METHODS = {
        "int feed(int int int int int)", "int load(int)" + BAD, "int errorPosition()", "int size(int)" + NO,
        "int door(int int)" + NO, "int room(int int)" + NO, "int guard(int int)" + NO, "int walk(int int)" + NO,
        "int roomOf(int int)" + BOTH, "int guardsIn(int int)" + BOTH, "int nextSeen(int int)" + BOTH, "int gapFrom(int)" + NO,
        "boolean isJoined(int int)" + NO, "int distance(int int)" + NO, "int meetings(int int)" + NO,
        "int passings(int int)" + NO, "int nextMeeting(int int int)" + BOTH, "int worstWith(int int)" + BOTH,
        "int bestWorst()", "int bestCrossings()", "int bestPhase(int)" + NO, "int arrival(int int int)" + BOTH,
        "int hiding(int int int)" + BOTH, "int longestStay()", "double coverage()", "float seenRate()", "int pass(int)" + BAD,
        "int shift(int int)" + BOTH, "int adopt()", "int closeDoor(int)" + NO, "int openDoor(int)" + NO,
        "int setLimit(int int)" + BOTH, "int change(int)" + BAD, "int format()", "int formattedByte(int)", "int undoCount()",
        "int undo()", "void saveSnapshot()", "boolean restoreSnapshot()", "int query(int)" + BAD};

    public static void main(String[] args) {
        Set<String> due = new TreeSet<>(Arrays.asList(METHODS));
        due.add("int NONE = -1");
        due.add("int HIDDEN = -1000000000");
        due.add("GuardWalks()");
        Check.due("the members that are not private", members().toString(), due.toString());
        Check.due("public and final", Modifier.isPublic(GuardWalks.class.getModifiers())
            && Modifier.isFinal(GuardWalks.class.getModifiers()), true);
        Check.end();
    }

    private static Set<String> members() {
        Set<String> members = new TreeSet<>();
        for (Method method : GuardWalks.class.getDeclaredMethods()) {
            if (!Modifier.isPrivate(method.getModifiers()) && !method.isSynthetic()) {
                members.add(method.getReturnType() + " " + method.getName() + names(method.getParameterTypes())
                    + thrown(method.getExceptionTypes()));
            }
        }
        for (Constructor<?> constructor : GuardWalks.class.getDeclaredConstructors()) {
            if (!Modifier.isPrivate(constructor.getModifiers()) && !constructor.isSynthetic()) {
                members.add(constructor.getName() + names(constructor.getParameterTypes()));
            }
        }
        for (Field field : GuardWalks.class.getDeclaredFields()) {
            if (!Modifier.isPrivate(field.getModifiers()) && !field.isSynthetic()) {
                members.add(field.getType() + " " + field.getName() + " = " + value(field));
            }
        }
        return members;
    }

    private static String names(Class<?>[] types) {
        StringBuilder text = new StringBuilder("(");
        for (Class<?> type : types) {
            text.append(text.length() > 1 ? " " : "").append(type.getSimpleName());
        }
        return text.append(")").toString();
    }

    private static String thrown(Class<?>[] types) {
        StringBuilder text = new StringBuilder();
        for (Class<?> type : types) {
            text.append(text.length() == 0 ? " throws " : " ").append(type.getSimpleName());
        }
        return text.toString();
    }

    private static String value(Field field) {
        try {
            return Modifier.isStatic(field.getModifiers()) && Modifier.isFinal(field.getModifiers())
                ? String.valueOf(field.get(null)) : "no constant";
        } catch (IllegalAccessException e) {
            return "out of reach";
        }
    }
}

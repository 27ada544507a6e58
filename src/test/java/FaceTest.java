import java.lang.reflect.Constructor;
import java.lang.reflect.Field;
import java.lang.reflect.Method;
import java.lang.reflect.Modifier;
import java.util.Arrays;
import java.util.Set;
import java.util.TreeSet;

/** Compares what the class shows with the document's public face. */
public final class FaceTest {
    private static final String[] FACE = {
        "NO_SUCH = -1", "BAD_VALUE = -2", "BAD_TEXT = -3", "TOO_MANY = -4", "NOT_POSSIBLE = -5", "NONE = -6",
        "SPARE = 0", "IDLE = 1", "NOTICE = 2", "KEEP = 3", "BikeSheds[]",
        "set[int, int]", "ask[int, int, int]", "giveUp[int]", "prolong[int, int]", "park[int]", "ride[int]", "answer[int]",
        "fetch[int]", "sweep[int]", "use[int, int, boolean]", "pass[int]", "run[]", "person[int, int]", "shed[int, int]",
        "waiting[int, int, int]", "count[int]", "untilPermit[int]", "bestShed[int, int, int]", "ifSwept[int, int]",
        "put[long]", "wipe[]", "fault[]", "undo[]", "save[int]", "restore[int]"};

    public static void main(String[] arguments) throws Exception {
        Set<String> due = new TreeSet<>(Arrays.asList(FACE));
        Set<String> got = face();
        boolean isRight = due.equals(got) && Modifier.isFinal(BikeSheds.class.getModifiers());
        System.out.println("FaceTest: " + (isRight ? "the face is as due" : "due " + due + ", got " + got));
        if (!isRight) {
            System.exit(1);
        }
    }

    private static Set<String> face() throws Exception {
        Set<String> face = new TreeSet<>();
        for (Field field : BikeSheds.class.getDeclaredFields()) {
            if (!Modifier.isPrivate(field.getModifiers())) {
                boolean isConstant = field.getModifiers() == (Modifier.PUBLIC | Modifier.STATIC | Modifier.FINAL);
                face.add(field.getName() + (isConstant ? " = " + field.getInt(null) : " is no constant"));
            }
        }
        for (Constructor<?> constructor : BikeSheds.class.getDeclaredConstructors()) {
            face.add("BikeSheds" + types(constructor.getModifiers(), constructor.getParameterTypes()));
        }
        for (Method method : BikeSheds.class.getDeclaredMethods()) {
            if (!Modifier.isPrivate(method.getModifiers())) {
                boolean answersInt = method.getReturnType() == int.class;
                face.add(method.getName() + types(method.getModifiers(), method.getParameterTypes()) + (answersInt ? "" : " is no int"));
            }
        }
        return face;
    }

    private static String types(int modifiers, Class<?>[] types) {
        String names = Arrays.toString(Arrays.stream(types).map(Class::getName).toArray());
        return names + (modifiers == Modifier.PUBLIC ? "" : " is not public");
    }
}

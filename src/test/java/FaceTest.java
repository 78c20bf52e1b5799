import java.lang.reflect.Constructor;
import java.lang.reflect.Executable;
import java.lang.reflect.Field;
import java.lang.reflect.Member;
import java.lang.reflect.Method;
import java.lang.reflect.Modifier;
import java.util.ArrayList;
import java.util.List;

/** The class shows the document's constants, constructor and methods, and nothing else. */
public final class FaceTest {
    private static final String SLOT = " throws IndexOutOfBoundsException";
    private static final String ARGUMENT = SLOT + ", IllegalArgumentException";
    private static final String ROOM = ARGUMENT + ", IllegalStateException";

    private static final List<String> FACE = List.of(
            "public static final int NONE",
            "public OrdinalDesk()",
            "public void finite(int, int)" + ARGUMENT,
            "public void raise(int, int, int)" + ROOM,
            "public int op(int, int, int, int)" + ROOM,
            "public int member(int, int, int)" + ROOM,
            "public int step(int, int, int)" + ROOM,
            "public int chop(int, int, int, int)" + ROOM,
            "public int start(int, int, int)" + ROOM,
            "public int compare(int, int)" + SLOT,
            "public int kind(int)" + SLOT,
            "public int size(int)" + SLOT,
            "public int at(int, int)" + SLOT,
            "public int value(int, int)" + ARGUMENT,
            "public int fast(int, int, int)" + ROOM,
            "public int record(int)" + SLOT + ", IllegalStateException",
            "public int rise()",
            "public void replace(int, int)" + SLOT,
            "public void recall(int, int)" + SLOT,
            "public int wipe()");

    public static void main(String[] args) {
        List<String> shown = new ArrayList<>();
        for (Field field : OrdinalDesk.class.getDeclaredFields()) {
            if (isShown(field)) {
                shown.add(modifiers(field) + field.getType() + " " + field.getName());
            }
        }
        for (Constructor<?> constructor : OrdinalDesk.class.getDeclaredConstructors()) {
            if (isShown(constructor)) {
                shown.add(modifiers(constructor) + signature(constructor));
            }
        }
        for (Method method : OrdinalDesk.class.getDeclaredMethods()) {
            if (isShown(method)) {
                shown.add(modifiers(method) + method.getReturnType() + " " + signature(method));
            }
        }
        for (String line : shown) {
            Bench.due(line + ": stands in the document's face", FACE.contains(line), true);
        }
        for (String line : FACE) {
            Bench.due(line + ": is there", shown.contains(line), true);
        }
        Bench.due("the class", Modifier.toString(OrdinalDesk.class.getModifiers()), "public final");
        Bench.due("NONE", OrdinalDesk.NONE, -1);
        Bench.finish();
    }

    private static boolean isShown(Member member) {
        return !Modifier.isPrivate(member.getModifiers()) && !member.isSynthetic();
    }

    private static String modifiers(Member member) {
        String words = Modifier.toString(member.getModifiers());
        return words.isEmpty() ? "" : words + " ";
    }

    private static String signature(Executable call) {
        String thrown = names(call.getExceptionTypes());
        return call.getName() + "(" + names(call.getParameterTypes()) + ")"
                + (thrown.isEmpty() ? "" : " throws " + thrown);
    }

    private static String names(Class<?>[] types) {
        List<String> names = new ArrayList<>();
        for (Class<?> type : types) {
            names.add(type.getSimpleName());
        }
        return String.join(", ", names);
    }
}

import java.lang.reflect.Constructor;
import java.lang.reflect.Field;
import java.lang.reflect.Member;
import java.lang.reflect.Method;
import java.lang.reflect.Modifier;
import java.util.ArrayList;
import java.util.Arrays;
import java.util.List;

/** The class shows the document's constants, constructor and methods, and nothing else. */
public final class FaceTest {
    private static final String[] FACE = {
        "NONE int",
        "OrdinalDesk()",
        "at(int,int) int",
        "chop(int,int,int,int) int",
        "compare(int,int) int",
        "fast(int,int,int) int",
        "finite(int,int) void",
        "kind(int) int",
        "member(int,int,int) int",
        "op(int,int,int,int) int",
        "raise(int,int,int) void",
        "recall(int,int) void",
        "record(int) int",
        "replace(int,int) void",
        "rise() int",
        "size(int) int",
        "start(int,int,int) int",
        "step(int,int,int) int",
        "value(int,int) int",
        "wipe() int",
    };

    public static void main(String[] args) {
        List<String> shown = new ArrayList<>();
        for (Field field : OrdinalDesk.class.getDeclaredFields()) {
            if (isShown(field)) {
                shown.add(field.getName() + " " + field.getType());
            }
        }
        for (Constructor<?> constructor : OrdinalDesk.class.getDeclaredConstructors()) {
            if (isShown(constructor)) {
                shown.add(constructor.getName() + types(constructor.getParameterTypes()));
            }
        }
        for (Method method : OrdinalDesk.class.getDeclaredMethods()) {
            if (isShown(method)) {
                shown.add(method.getName() + types(method.getParameterTypes()) + " " + method.getReturnType());
            }
        }
        shown.sort((x, y) -> order(x).compareTo(order(y)));
        Bench.due("the face", shown, Arrays.asList(FACE));
        Bench.due("a final class", Modifier.isFinal(OrdinalDesk.class.getModifiers()), true);
        Bench.finish();
    }

    private static boolean isShown(Member member) {
        if (Modifier.isPrivate(member.getModifiers()) || member.isSynthetic()) {
            return false;
        }
        Bench.due(member.getName() + " is public", Modifier.isPublic(member.getModifiers()), true);
        return true;
    }

    /** Constants, then constructors, then methods. */
    private static String order(String shown) {
        return shown.contains("(") ? shown : " " + shown;
    }

    private static String types(Class<?>[] types) {
        List<String> names = new ArrayList<>();
        for (Class<?> type : types) {
            names.add(type.getName());
        }
        return "(" + String.join(",", names) + ")";
    }
}

import java.lang.reflect.Constructor;
import java.lang.reflect.Field;
import java.lang.reflect.Method;
import java.lang.reflect.Modifier;
import java.util.TreeSet;

/** The public face: the constants, the constructor, the methods, and nothing else. */
public final class FaceTest {
    public static void main(String[] args) {
        Check.due("UNKNOWN", ScannedDigits.UNKNOWN, -1);
        Check.due("BAD_VALUE", ScannedDigits.BAD_VALUE, -2);
        Check.due("FULL", ScannedDigits.FULL, -3);
        Check.due("NONE", ScannedDigits.NONE, -4);
        Check.due("final class", Modifier.isFinal(ScannedDigits.class.getModifiers()) ? 1 : 0, 1);
        Check.dueText("members", members(), String.join("\n", new TreeSet<>(java.util.List.of(
            "BAD_VALUE", "FULL", "NONE", "UNKNOWN", "new()",
            "setDigits(int)int", "setWidth(int,int)int", "setGuard(int,int)int",
            "setBrightness(int,int)int", "setPattern(int,int)int", "setGroup(int,int)int",
            "setBlink(int,int,int)int", "set(int,int)int", "replace(int)int", "test(int)int",
            "pass(int)int", "passFrames(int)int", "type(char)int", "clearText()int", "show()int",
            "undo()int", "keep(int)int", "restore(int)int", "digit(int,int)int",
            "segment(int,int,int)int", "litIn(int,int)int", "steadyGlow(int)int",
            "current(int)float", "thousandths(int)int", "duty(int)float", "count(int)int",
            "group(int,int)int"))));
        Check.end();
    }

    private static String members() {
        TreeSet<String> found = new TreeSet<>();
        for (Field field : ScannedDigits.class.getDeclaredFields()) {
            if (!Modifier.isPrivate(field.getModifiers())) {
                found.add(field.getName());
            }
        }
        for (Constructor<?> made : ScannedDigits.class.getDeclaredConstructors()) {
            if (!Modifier.isPrivate(made.getModifiers())) {
                found.add("new" + parameters(made.getParameterTypes()));
            }
        }
        for (Method method : ScannedDigits.class.getDeclaredMethods()) {
            if (!Modifier.isPrivate(method.getModifiers())) {
                found.add(method.getName() + parameters(method.getParameterTypes())
                    + method.getReturnType().getName());
            }
        }
        return String.join("\n", found);
    }

    private static String parameters(Class<?>[] types) {
        StringBuilder told = new StringBuilder("(");
        for (int i = 0; i < types.length; i++) {
            told.append(i == 0 ? "" : ",").append(types[i].getName());
        }
        return told.append(')').toString();
    }
}

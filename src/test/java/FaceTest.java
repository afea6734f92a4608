import java.lang.reflect.Constructor;
import java.lang.reflect.Field;
import java.lang.reflect.Method;
import java.lang.reflect.Modifier;
import java.util.ArrayList;
import java.util.Arrays;
import java.util.Collections;
import java.util.List;

/** The class has the document's face and no other. */
final class FaceTest {
    private static final String[] FACE = {
        "int setTank(int, int, int, int) IllegalArgumentException",
        "boolean setValve(int, boolean) IllegalArgumentException",
        "int drain(int, int) IllegalArgumentException",
        "int inTank(int) IllegalArgumentException",
        "int addStep(int, int) IllegalArgumentException IllegalStateException",
        "int setAfter(int, int) IndexOutOfBoundsException IllegalArgumentException IllegalStateException",
        "char stepState(int) IndexOutOfBoundsException",
        "int addMark(int, int, int) IllegalArgumentException UnsupportedOperationException IllegalStateException",
        "int sense(int, int) IllegalArgumentException",
        "int inhibit(int, boolean) IllegalArgumentException UnsupportedOperationException",
        "int setWind(int) IllegalArgumentException",
        "int strike(int) IllegalArgumentException",
        "int boat(int, int, int) IllegalArgumentException",
        "int addRule(char, int, int, int, int) IllegalArgumentException IllegalStateException",
        "boolean mayWaive(int, int) IndexOutOfBoundsException IllegalArgumentException",
        "boolean waive(int, int, int) IndexOutOfBoundsException IllegalArgumentException"
            + " UnsupportedOperationException",
        "boolean go(int, boolean) IllegalArgumentException",
        "int value(int) IndexOutOfBoundsException",
        "int holdsFor(int) IndexOutOfBoundsException",
        "boolean isMet(int) IndexOutOfBoundsException",
        "int begin(int, int, int) IllegalArgumentException IllegalStateException",
        "int recycle(int) IndexOutOfBoundsException UnsupportedOperationException",
        "boolean scrub()",
        "int pass(int) IllegalArgumentException IllegalStateException",
        "int track(int, int) IllegalArgumentException",
        "char state()",
        "int count() IllegalStateException",
        "int second()",
        "int holds() IllegalStateException",
        "char cause() NoSuchElementException",
        "int causeRule() NoSuchElementException",
        "int risk()",
        "int logLength()",
        "char logAt(int) IndexOutOfBoundsException",
        "int logged(char)",
        "long checksum()",
        "float metShare() ArithmeticException",
        "double meanFill() ArithmeticException",
        "boolean isSound()",
    };

    private FaceTest() {
    }

    static void run() {
        Check.promise(0);
        Check.same("public and final", LaunchRange.class.getModifiers(), Modifier.PUBLIC | Modifier.FINAL);
        Constructor<?>[] made = LaunchRange.class.getDeclaredConstructors();
        Check.same("constructors", made.length, 1);
        Check.same("its parameters", made[0].getParameterCount(), 0);
        Check.same("its modifiers", made[0].getModifiers(), Modifier.PUBLIC);
        List<String> got = new ArrayList<>();
        List<String> hidden = new ArrayList<>();
        for (Method m : LaunchRange.class.getDeclaredMethods()) {
            if (Modifier.isPrivate(m.getModifiers())) {
                hidden.add(m.getName());
            } else {
                Check.same("modifiers of " + m.getName(), m.getModifiers(), Modifier.PUBLIC);
                got.add(signature(m));
            }
        }
        Collections.sort(got);
        List<String> due = new ArrayList<>(Arrays.asList(FACE));
        Collections.sort(due);
        Check.text("the face", String.join("\n", got), String.join("\n", due));
        for (String name : hidden) {
            Check.is("private " + name + " bears the name of a public one", due.toString().contains(" " + name + "("),
                    false);
        }
        for (Field f : LaunchRange.class.getDeclaredFields()) {
            Check.is("private field " + f.getName(), Modifier.isPrivate(f.getModifiers()), true);
            Check.is("final if static " + f.getName(),
                    !Modifier.isStatic(f.getModifiers()) || Modifier.isFinal(f.getModifiers()), true);
        }
    }

    private static String signature(Method m) {
        StringBuilder text = new StringBuilder();
        text.append(m.getReturnType().getSimpleName()).append(' ').append(m.getName()).append('(');
        for (Class<?> p : m.getParameterTypes()) {
            text.append(text.charAt(text.length() - 1) == '(' ? "" : ", ").append(p.getSimpleName());
        }
        text.append(')');
        for (Class<?> e : m.getExceptionTypes()) {
            text.append(' ').append(e.getSimpleName());
        }
        return text.toString();
    }
}

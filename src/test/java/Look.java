import java.lang.reflect.Array;
import java.lang.reflect.Field;
import java.lang.reflect.Modifier;
import java.util.NoSuchElementException;
import java.util.function.Supplier;

/** Reads all that the face shows of a range. */
final class Look {
    private Look() {
    }

    static String log(LaunchRange x) {
        StringBuilder text = new StringBuilder();
        for (int i = 0; i < x.logLength(); i++) {
            text.append(x.logAt(i));
        }
        return text.toString();
    }

    static int steps(LaunchRange x) {
        int number = 0;
        while (number <= 16 && hasStep(x, number)) {
            number++;
        }
        return number;
    }

    static int rules(LaunchRange x) {
        int number = 0;
        while (number <= 12 && hasRule(x, number)) {
            number++;
        }
        return number;
    }

    private static boolean hasStep(LaunchRange x, int step) {
        return !orElse(() -> "" + x.stepState(step), "none").equals("none");
    }

    private static boolean hasRule(LaunchRange x, int rule) {
        return !orElse(() -> "" + x.holdsFor(rule), "none").equals("none");
    }

    static String orElse(Supplier<String> call, String instead) {
        try {
            return call.get();
        } catch (IllegalStateException | IndexOutOfBoundsException | NoSuchElementException | ArithmeticException e) {
            return instead;
        }
    }

    /** All that stands inside a range, as valves, sensors and waivers are not shown by the face at once. */
    static String inside(LaunchRange x) {
        StringBuilder text = new StringBuilder();
        appendInside(x, text);
        return text.toString();
    }

    private static void appendInside(Object part, StringBuilder text) {
        if (part == null || part instanceof Number || part instanceof Boolean) {
            text.append(part).append(' ');
        } else if (part instanceof Character) {
            text.append((int) (Character) part).append(' ');
        } else if (part instanceof CharSequence) {
            text.append(part.toString()).append(' ');
        } else if (part.getClass().isArray()) {
            for (int i = 0; i < Array.getLength(part); i++) {
                appendInside(Array.get(part, i), text);
            }
        } else if (part instanceof Iterable) {
            for (Object element : (Iterable<?>) part) {
                appendInside(element, text);
            }
        } else {
            appendFields(part, text);
        }
    }

    private static void appendFields(Object part, StringBuilder text) {
        for (Field f : part.getClass().getDeclaredFields()) {
            if (Modifier.isStatic(f.getModifiers())) {
                continue;
            }
            f.setAccessible(true);
            text.append(f.getName()).append('=');
            try {
                appendInside(f.get(part), text);
            } catch (IllegalAccessException e) {
                throw new IllegalStateException(e);
            }
        }
    }

    static String stepStates(LaunchRange x) {
        StringBuilder text = new StringBuilder();
        for (int i = 0; i < steps(x); i++) {
            text.append(x.stepState(i));
        }
        return text.toString();
    }

    static String at(LaunchRange x) {
        StringBuilder text = new StringBuilder();
        text.append(x.state()).append(' ').append(x.second());
        text.append(" count ").append(orElse(() -> "" + x.count(), "none"));
        text.append(" holds ").append(orElse(() -> "" + x.holds(), "none"));
        text.append(" cause ").append(orElse(() -> "" + x.cause(), "none"));
        text.append(orElse(() -> " " + x.causeRule(), ""));
        text.append(" tanks ").append(x.inTank(0)).append(',').append(x.inTank(1)).append(',').append(x.inTank(2));
        text.append(" steps ");
        text.append(stepStates(x)).append(" rules");
        for (int i = 0; i < rules(x); i++) {
            text.append(' ').append(x.value(i)).append('/').append(x.holdsFor(i)).append('/').append(x.isMet(i));
        }
        text.append(" risk ").append(x.risk()).append(" sum ").append(x.checksum());
        text.append(" met ").append(orElse(() -> "" + x.metShare(), "none"));
        text.append(" fill ").append(orElse(() -> "" + x.meanFill(), "none"));
        return text.append(" sound ").append(x.isSound()).append(" log ").append(log(x)).toString();
    }
}

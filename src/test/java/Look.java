import java.util.NoSuchElementException;
import java.util.function.Supplier;

/** Reads all that the face shows of a range. */
final class Look {
    private Look() {
    }

    static String log(LaunchRange x) {
        StringBuilder text = new StringBuilder();
        for (int i = 0; i < x.logLength(); i++) {
            text.append(x.logAt(i));
        }
        return text.toString();
    }

    static int steps(LaunchRange x) {
        int number = 0;
        while (number <= 16 && hasStep(x, number)) {
            number++;
        }
        return number;
    }

    static int rules(LaunchRange x) {
        int number = 0;
        while (number <= 12 && hasRule(x, number)) {
            number++;
        }
        return number;
    }

    private static boolean hasStep(LaunchRange x, int step) {
        return !orElse(() -> "" + x.stepState(step), "none").equals("none");
    }

    private static boolean hasRule(LaunchRange x, int rule) {
        return !orElse(() -> "" + x.holdsFor(rule), "none").equals("none");
    }

    static String orElse(Supplier<String> call, String instead) {
        try {
            return call.get();
        } catch (IllegalStateException | IndexOutOfBoundsException | NoSuchElementException | ArithmeticException e) {
            return instead;
        }
    }

    static String at(LaunchRange x) {
        StringBuilder text = new StringBuilder();
        text.append(x.state()).append(' ').append(x.second());
        text.append(" count ").append(orElse(() -> "" + x.count(), "none"));
        text.append(" holds ").append(orElse(() -> "" + x.holds(), "none"));
        text.append(" cause ").append(orElse(() -> "" + x.cause(), "none"));
        text.append(orElse(() -> " " + x.causeRule(), ""));
        text.append(" tanks ").append(x.inTank(0)).append(',').append(x.inTank(1)).append(',').append(x.inTank(2));
        text.append(" steps ");
        for (int i = 0; i < steps(x); i++) {
            text.append(x.stepState(i));
        }
        text.append(" rules");
        for (int i = 0; i < rules(x); i++) {
            text.append(' ').append(x.value(i)).append('/').append(x.holdsFor(i)).append('/').append(x.isMet(i));
        }
        text.append(" risk ").append(x.risk()).append(" sum ").append(x.checksum());
        text.append(" met ").append(orElse(() -> "" + x.metShare(), "none"));
        text.append(" fill ").append(orElse(() -> "" + x.meanFill(), "none"));
        return text.append(" sound ").append(x.isSound()).append(" log ").append(log(x)).toString();
    }
}

import java.util.function.LongSupplier;

/** Counts the answers that are as due, and prints those that are not. */
final class Check {
    private static int passed = 0;
    private static int failed = 0;
    private static int promise = 0;

    private Check() {
    }

    static void promise(int number) {
        promise = number;
    }

    static void same(String what, long got, long want) {
        tell(got == want, what + " answered " + got + ", due is " + want);
    }

    static void sign(String what, char got, char want) {
        tell(got == want, what + " answered '" + got + "', due is '" + want + "'");
    }

    static void is(String what, boolean got, boolean want) {
        tell(got == want, what + " answered " + got + ", due is " + want);
    }

    static void text(String what, String got, String want) {
        tell(got.equals(want), what + " answered \"" + got + "\", due is \"" + want + "\"");
    }

    static void real(String what, double got, double want) {
        tell(got == want, what + " answered " + got + ", due is " + want);
    }

    /** The call throws just this exception, no kind of it, and nothing has changed, seen or not. */
    static void refuses(LaunchRange x, Class<? extends RuntimeException> due, String what, LongSupplier call) {
        String before = Look.at(x);
        String beforeInside = Look.inside(x);
        String thrown = "nothing";
        try {
            call.getAsLong();
        } catch (RuntimeException e) {
            thrown = e.getClass().getSimpleName();
        }
        tell(thrown.equals(due.getSimpleName()), what + " threw " + thrown + ", due is " + due.getSimpleName());
        text(what + " leaves", Look.at(x), before);
        text(what + " leaves inside", Look.inside(x), beforeInside);
    }

    static void takes(String what, LongSupplier call) {
        String thrown = "nothing";
        try {
            call.getAsLong();
        } catch (RuntimeException e) {
            thrown = e.getClass().getSimpleName();
        }
        text(what + " threw", thrown, "nothing");
    }

    private static void tell(boolean isRight, String fault) {
        if (isRight) {
            passed++;
        } else {
            failed++;
            System.out.println("promise " + promise + ": " + fault);
        }
    }

    static int passed() {
        return passed;
    }

    static int failed() {
        return failed;
    }
}

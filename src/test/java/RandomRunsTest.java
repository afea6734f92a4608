import java.util.ArrayList;
import java.util.List;
import java.util.NoSuchElementException;
import java.util.Random;
import java.util.function.ToLongFunction;

/**
 * Long runs of calls, always the same ones. Each run goes on two ranges: where the one lets many seconds go by at
 * once, the other lets them go by one by one, and both must show the same all the time.
 */
final class RandomRunsTest {
    private static final int RUNS = 400;
    private static final int CALLS = 250;

    private RandomRunsTest() {
    }

    static void run() {
        Check.promise(0);
        StringBuilder ends = new StringBuilder();
        for (int seed = 0; seed < RUNS; seed++) {
            ends.append(oneRun(new Random(seed), seed));
        }
        for (char state : new char[] {'c', 'h', 's', 'f', 'x', 'o'}) {
            Check.is("some run ends in the state " + state, ends.indexOf("" + state) >= 0, true);
        }
    }

    private static char oneRun(Random random, int seed) {
        LaunchRange x = new LaunchRange();
        LaunchRange y = new LaunchRange();
        boolean isWild = seed % 4 == 0;
        for (int i = 0; i < CALLS; i++) {
            int which = random.nextInt(27);
            String where = "run " + seed + " call " + i + " kind " + which;
            String before = look(x, isWild);
            int seconds = isWild ? number(random, 600) : 1 + random.nextInt(seed % 3 == 1 ? 40 : 4);
            ToLongFunction<LaunchRange> call = which > 21
                    ? r -> r.pass(seconds) : call(which, random, isWild || random.nextInt(20) == 0);
            String got = answer(x, call);
            String same = which > 21 && !got.startsWith("throws") ? passOneByOne(y, seconds) : answer(y, call);
            Check.text(where, same, got);
            String after = look(x, isWild);
            if (got.startsWith("throws")) {
                Check.text(where + " leaves", after, before);
            }
            Check.text(where + " shows", Look.at(y), Look.at(x));
            figures(x, where);
            Check.text(where + " looks change nothing", look(x, isWild), after);
        }
        return x.state();
    }

    /** To look at all that stands inside takes long, so only some runs do. */
    private static String look(LaunchRange x, boolean isInside) {
        return isInside ? Look.inside(x) : Look.at(x);
    }

    private static String passOneByOne(LaunchRange y, int seconds) {
        for (int i = 0; i < seconds; i++) {
            y.pass(1);
        }
        return "" + y.second();
    }

    private static String answer(LaunchRange x, ToLongFunction<LaunchRange> call) {
        try {
            return "" + call.applyAsLong(x);
        } catch (RuntimeException e) {
            Check.is("throws " + e.getClass(), isDocumented(e.getClass()), true);
            return "throws " + e.getClass().getSimpleName();
        }
    }

    private static boolean isDocumented(Class<?> c) {
        return c == IllegalArgumentException.class || c == IllegalStateException.class
                || c == IndexOutOfBoundsException.class || c == UnsupportedOperationException.class
                || c == NoSuchElementException.class || c == ArithmeticException.class;
    }

    private static int number(Random random, int greatest) {
        int[] edges = {0, -1, 1, greatest, greatest + 1, -greatest, Integer.MIN_VALUE, Integer.MAX_VALUE};
        return random.nextInt(3) == 0 ? edges[random.nextInt(edges.length)] : random.nextInt(greatest + 1);
    }

    private static ToLongFunction<LaunchRange> call(int which, Random random, boolean isWild) {
        int a = isWild ? number(random, 16) : random.nextInt(3);
        int b = isWild ? number(random, 600) : random.nextInt(6);
        int c = isWild ? number(random, 5000) : random.nextInt(12);
        boolean is = random.nextInt(4) != 0;
        char kind = "tswlbgx".charAt(random.nextInt(isWild ? 7 : 6));
        switch (which) {
            case 0: return r -> r.setTank(a, isWild ? c : 100 + c, b, isWild ? c : 10 * b);
            case 1: return r -> r.setValve(a, is) ? 1 : 0;
            case 2: return r -> r.drain(a, isWild ? c : 1 + 9 * c);
            case 3: return r -> r.addStep(isWild ? -b : -1 - c, isWild ? c : 1 + b);
            case 4: return r -> r.setAfter(isWild ? b : 1 + a, a);
            case 5: return r -> r.addMark(isWild ? -b : -1 - c, isWild ? c : b, isWild ? c : a > 0 ? 0 : 1 + a);
            case 6: return r -> r.sense(isWild ? a : 3 * a + b % 3, c);
            case 7: return r -> r.inhibit(isWild ? a : 3 * a + b % 3, !is);
            case 8: return r -> r.setWind(isWild ? b : c);
            case 9: return r -> r.strike(isWild ? b : 15 + c);
            case 10: return r -> r.boat(a, isWild ? b : b, isWild ? c : c);
            case 11: return r -> r.addRule(kind, a, isWild ? b : is ? 0 : 1, isWild ? c : 600 + c, isWild ? b : b);
            case 12: return r -> r.mayWaive(a, isWild ? b : b % 3) ? 1 : 0;
            case 13: return r -> r.waive(a, isWild ? b : b % 3, isWild ? -b : -c) ? 1 : 0;
            case 14: return r -> r.go(a, is) ? 1 : 0;
            case 15: case 16: case 17: return r -> r.begin(isWild ? -b : -10 - b, isWild ? a : 2 * c, isWild ? c : 90);
            case 18: return r -> r.recycle(a);
            case 19: return r -> b == 0 ? (r.scrub() ? 1 : 0) : r.second();
            case 20: return r -> r.track(isWild ? a : a % 2, isWild ? b : 40 * b - 60);
            default: return r -> r.value(a) + r.holdsFor(a) + (r.isMet(a) ? 1 : 0);
        }
    }

    /** Figures that the document defines by other answers, and the order of what the log tells. */
    private static void figures(LaunchRange x, String where) {
        String log = Look.log(x);
        int rules = Look.rules(x);
        long sum = 7;
        sum = 31 * sum + x.second();
        sum = 31 * sum + Long.parseLong(Look.orElse(() -> "" + x.count(), "0"));
        for (int i = 0; i < 3; i++) {
            sum = 31 * sum + x.inTank(i);
        }
        int met = 0;
        for (int i = 0; i < rules; i++) {
            sum = 31 * sum + x.holdsFor(i);
            met += x.isMet(i) ? 1 : 0;
        }
        Check.same(where + " checksum", x.checksum(), 31 * sum + log.length());
        if (rules > 0) {
            Check.real(where + " metShare", x.metShare(), (float) met / (float) rules);
        }
        Check.is(where + " isSound", x.isSound(), true);
        Check.sign(where + " the state by its log " + log, stateByLog(log), x.state());
    }

    private static char stateByLog(String log) {
        char state = '-';
        int second = 0;
        for (String entry : entries(log)) {
            int told = Integer.parseInt(entry.substring(0, entry.length() - 1));
            char letter = entry.charAt(entry.length() - 1);
            String mayFollow = state == '-' || state == 's' ? "C" : state == 'c' ? "HRSF" : state == 'h' ? "GRS"
                    : state == 'f' ? "XO" : "";
            if (told < second || mayFollow.indexOf(letter) < 0) {
                return '!';
            }
            second = told;
            state = "CHGRSFXO".indexOf(letter) < 0 ? '!' : "chccsfxo".charAt("CHGRSFXO".indexOf(letter));
        }
        return state;
    }

    private static List<String> entries(String log) {
        List<String> entries = new ArrayList<>();
        int from = 0;
        for (int i = 0; i < log.length(); i++) {
            if (log.charAt(i) == ';') {
                entries.add(log.substring(from, i));
                from = i + 1;
            }
        }
        if (from != log.length()) {
            entries.add("0!");
        }
        return entries;
    }
}

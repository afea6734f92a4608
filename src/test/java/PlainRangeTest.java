import java.lang.reflect.InvocationTargetException;
import java.lang.reflect.Method;
import java.util.ArrayList;
import java.util.Arrays;
import java.util.Comparator;
import java.util.List;
import java.util.Random;

/** Long runs of calls, always the same ones, on the program and on the plain range: each answer must be the same. */
final class PlainRangeTest {
    private static final int RUNS = 500;
    private static final int CALLS = 160;
    private static final int CALLS_AHEAD = 40;
    private static final int[] ANY = {0, -1, 1, 2, 16, 20, 100, 600, -600, -10, 5000, 9999, Integer.MIN_VALUE,
        Integer.MAX_VALUE};

    private static final String[] PLAN = {"setTank", "setTank", "setValve", "setValve", "addStep", "addStep",
        "setAfter", "addMark", "addMark", "sense", "inhibit", "boat", "addRule", "addRule", "mayWaive", "mayWaive",
        "go", "go", "go", "track", "waive", "pass"};
    private static final String[] COUNT = {"pass", "pass", "pass", "pass", "pass", "pass", "pass", "begin", "begin",
        "recycle", "recycle", "waive", "waive", "go", "setWind", "sense", "boat", "strike", "drain", "inhibit",
        "track", "track"};

    private static final List<Method> CALLS_OF_FACE = methods();

    private PlainRangeTest() {
    }

    static void run() {
        Check.promise(0);
        StringBuilder ends = new StringBuilder();
        StringBuilder letters = new StringBuilder();
        for (int seed = 0; seed < RUNS; seed++) {
            LaunchRange x = oneRun(new Random(seed), seed);
            ends.append(x.state());
            letters.append(Look.log(x));
        }
        for (String state : new String[] {"c", "h", "s", "f", "x", "o"}) {
            Check.is("some run ends in the state " + state, ends.indexOf(state) >= 0, true);
        }
        for (String letter : new String[] {"C", "H", "G", "R", "S", "F", "X", "O"}) {
            Check.is("some run logs " + letter, letters.indexOf(letter) >= 0, true);
        }
    }

    private static List<Method> methods() {
        List<Method> methods = new ArrayList<>(Arrays.asList(LaunchRange.class.getDeclaredMethods()));
        methods.removeIf(m -> !java.lang.reflect.Modifier.isPublic(m.getModifiers()));
        methods.sort(Comparator.comparing(Method::getName));
        return methods;
    }

    private static LaunchRange oneRun(Random random, int seed) {
        LaunchRange x = new LaunchRange();
        PlainRange plain = new PlainRange();
        for (int i = 0; i < CALLS; i++) {
            Method call = next(random, i);
            Object[] with = arguments(call, random, x.state());
            String where = "run " + seed + " call " + i + " " + call.getName() + Arrays.toString(with);
            Check.text(where, answer(x, call, with), answer(plain, twin(call), with));
            looks(x, plain, where);
        }
        return x;
    }

    private static Method next(Random random, int i) {
        if (random.nextInt(12) == 0) {
            return CALLS_OF_FACE.get(random.nextInt(CALLS_OF_FACE.size()));
        }
        String[] names = i < CALLS_AHEAD ? PLAN : COUNT;
        return named(names[random.nextInt(names.length)]);
    }

    private static Method named(String name) {
        for (Method method : CALLS_OF_FACE) {
            if (method.getName().equals(name)) {
                return method;
            }
        }
        throw new IllegalStateException(name);
    }

    private static Method twin(Method call) {
        try {
            return PlainRange.class.getMethod(call.getName(), call.getParameterTypes());
        } catch (NoSuchMethodException e) {
            throw new IllegalStateException(e);
        }
    }

    private static String answer(Object range, Method call, Object... with) {
        try {
            return "" + call.invoke(range, with);
        } catch (InvocationTargetException e) {
            return "throws " + e.getCause().getClass().getName();
        } catch (IllegalAccessException e) {
            throw new IllegalStateException(e);
        }
    }

    /** All that the face tells without an argument, and all that it tells of each tank, step and rule. */
    private static void looks(LaunchRange x, PlainRange plain, String where) {
        for (Method call : CALLS_OF_FACE) {
            boolean isLook = call.getParameterCount() == 0 && !call.getName().equals("scrub");
            if (isLook) {
                Check.text(where + ": " + call.getName(), answer(x, call), answer(plain, twin(call)));
            }
        }
        for (String name : new String[] {"inTank", "stepState", "value", "holdsFor", "isMet"}) {
            for (int i = 0; i < 16; i++) {
                String got = answer(x, named(name), i);
                Check.text(where + ": " + name + " " + i, got, answer(plain, twin(named(name)), i));
                if (got.startsWith("throws")) {
                    break;
                }
            }
        }
        if (x.logLength() == plain.logLength()) {
            StringBuilder log = new StringBuilder();
            for (int i = 0; i < plain.logLength(); i++) {
                log.append(plain.logAt(i));
            }
            Check.text(where + ": the log", Look.log(x), log.toString());
        }
    }

    private static Object[] arguments(Method call, Random random, char state) {
        Class<?>[] types = call.getParameterTypes();
        int[] likely = likely(call.getName(), random, state);
        Object[] with = new Object[types.length];
        for (int i = 0; i < types.length; i++) {
            boolean isAny = random.nextInt(60) == 0;
            int number = isAny ? ANY[random.nextInt(ANY.length)] : likely[i];
            if (types[i] == boolean.class) {
                with[i] = number != 0;
            } else if (types[i] == char.class) {
                with[i] = (char) number;
            } else {
                with[i] = number;
            }
        }
        return with;
    }

    private static int from(Random random, int least, int greatest) {
        return least + random.nextInt(greatest - least + 1);
    }

    /** Numbers by which something happens: small ones, close to one another. */
    private static int[] likely(String name, Random r, char state) {
        int is = r.nextInt(4) == 0 ? 0 : 1;
        switch (name) {
            case "setTank": return new int[] {from(r, 0, 2), from(r, 0, 400), from(r, 0, 60), from(r, 0, 100)};
            case "setValve": return new int[] {from(r, 0, 2), is};
            case "drain": return new int[] {from(r, 0, 2), from(r, 1, 200)};
            case "addStep": return new int[] {-from(r, 1, 20), from(r, 1, 6)};
            case "setAfter": return new int[] {from(r, 1, 5), from(r, 0, 2)};
            case "addMark": return new int[] {-from(r, 1, 14), from(r, 0, 4), r.nextBoolean() ? 0 : from(r, 0, 15)};
            case "sense": return new int[] {from(r, 0, 8), from(r, -6, 6)};
            case "inhibit": return new int[] {from(r, 0, 8), 1 - is};
            case "setWind": return new int[] {from(r, 0, 45)};
            case "strike": return new int[] {from(r, 10, 40)};
            case "boat": return new int[] {from(r, 0, 7), from(r, 0, 3), from(r, 5, 12)};
            case "addRule": return rule(r);
            case "mayWaive": return new int[] {from(r, 0, 3), from(r, 0, 3)};
            case "waive": return new int[] {from(r, 0, 3), from(r, 0, 3), is * -from(r, 0, 12)};
            case "go": return new int[] {from(r, 0, 5), is};
            case "begin": return begin(r);
            case "recycle": return new int[] {from(r, 0, 2)};
            case "pass": return new int[] {seconds(r, state)};
            case "track": return new int[] {from(r, 0, 1), off(r)};
            case "logged": return new int[] {"CHGRSFXO;0123456789c".charAt(r.nextInt(20))};
            default: return new int[] {from(r, 0, 5)};
        }
    }

    private static int[] rule(Random r) {
        char kind = "tswlbg".charAt(r.nextInt(6));
        int seconds = r.nextInt(3) == 0 ? from(r, 1, 5) : 0;
        switch (kind) {
            case 't': return new int[] {kind, from(r, 0, 2), from(r, 0, 60), 400, seconds};
            case 's': return new int[] {kind, from(r, 0, 2), from(r, -6, -2), from(r, 2, 6), seconds};
            case 'w': return new int[] {kind, r.nextInt(), 0, from(r, 25, 40), seconds};
            case 'l': return new int[] {kind, r.nextInt(), 0, from(r, 2, 9), seconds};
            case 'b': return new int[] {kind, r.nextInt(), 0, from(r, 100, 400), seconds};
            default: return new int[] {kind, from(r, 0, 5), from(r, 0, 1), 1, seconds};
        }
    }

    private static int[] begin(Random r) {
        int count = -from(r, 10, 25);
        int open = r.nextInt(3) == 0 ? from(r, 8, 40) : 0;
        int shut = Math.max(open, -count) + from(r, -1, r.nextBoolean() ? 6 : 90);
        return new int[] {count, open, shut};
    }

    private static int off(Random r) {
        int side = r.nextBoolean() ? 1 : -1;
        return r.nextInt(3) == 0 ? side * from(r, 99, 103) : from(r, -14, 14);
    }

    private static int seconds(Random r, char state) {
        if (r.nextInt(40) == 0) {
            return from(r, 500, 600);
        }
        return state == 'f' && r.nextInt(4) == 0 ? from(r, 20, 60) : from(r, 1, 4);
    }
}

/** The edges that promises 10 to 21 name, a test each. */
final class EdgesOfRulesAndPeopleTest {
    private static final Class<IllegalArgumentException> ARGUMENT = IllegalArgumentException.class;
    private static final Class<IllegalStateException> STATE = IllegalStateException.class;
    private static final Class<IndexOutOfBoundsException> INDEX = IndexOutOfBoundsException.class;
    private static final Class<UnsupportedOperationException> UNSUPPORTED = UnsupportedOperationException.class;

    private EdgesOfRulesAndPeopleTest() {
    }

    static void run() {
        sense();
        inhibit();
        setWind();
        strike();
        boat();
        addRule();
        mayWaive();
        waive();
        go();
        value();
        holdsFor();
        isMet();
    }

    private static LaunchRange withRules(int number) {
        LaunchRange x = new LaunchRange();
        for (int i = 0; i < number; i++) {
            x.addRule('w', 0, 0, 10, 0);
        }
        return x;
    }

    /** A range without rules, one with a rule, and a full one: what is refused at each. */
    private static void refusesRules(Edges.Call call) {
        for (int rules : new int[] {0, 1, 11, 12}) {
            LaunchRange x = withRules(rules);
            for (int n : new int[] {-1, rules, rules + 1, 12, 13, 256, 65536, Integer.MIN_VALUE, Integer.MAX_VALUE}) {
                Check.refuses(x, INDEX, "the rule " + n + " of " + rules, () -> call.on(x, n));
            }
            for (int n = 0; n < rules; n++) {
                int rule = n;
                Check.takes("the rule " + n + " of " + rules, () -> call.on(x, rule));
            }
        }
    }

    private static void sense() {
        Edges.test(10, "`sensor`: the sensor, 0 to 8; 0 to 2, 3 to 5 and 6 to 8 measure the same", () -> {
            Edges.bounds("the sensor", 0, 8, ARGUMENT, LaunchRange::new, (x, n) -> x.sense(n, 1));
            for (int one = 0; one < 9; one++) {
                for (int other = 0; other < 9; other++) {
                    LaunchRange x = new LaunchRange();
                    x.sense(one, 7);
                    boolean isSame = one != other && one / 3 == other / 3;
                    Check.same("sensors " + one + " and " + other, x.sense(other, 7), isSame ? 7 : 0);
                }
            }
        });
        Edges.test(10, "`value`: the value, -9999 to 9999", () -> Edges.bounds("the value", -9999, 9999, ARGUMENT,
                LaunchRange::new, (x, n) -> x.sense(0, n)));
        Edges.test(10, "Returns what its three tell together.", () -> {
            LaunchRange x = new LaunchRange();
            x.inhibit(0, true);
            x.sense(1, 5);
            Check.same("one that is left out", x.sense(0, 9999), 2);
            Check.same("one that counts", x.sense(2, -5), 0);
        });
        Edges.test(10, "if a number is out of range", () -> {
            LaunchRange x = new LaunchRange();
            x.sense(0, 3);
            x.sense(1, 3);
            Check.refuses(x, ARGUMENT, "a value too great", () -> x.sense(0, 10000));
            Check.refuses(x, ARGUMENT, "a value too small", () -> x.sense(1, -10000));
            Check.refuses(x, ARGUMENT, "both wrong", () -> x.sense(9, 10000));
            Check.same("told as before", x.sense(2, 9), 3);
        });
    }

    private static void inhibit() {
        Edges.test(11, "`sensor`: the sensor, 0 to 8", () -> {
            Edges.bounds("the sensor left out", 0, 8, ARGUMENT, LaunchRange::new, (x, n) -> x.inhibit(n, true));
            Edges.bounds("the sensor taken back", 0, 8, ARGUMENT, LaunchRange::new, (x, n) -> x.inhibit(n, false));
        });
        Edges.test(11, "Returns how many of its three count.", () -> {
            for (int first = 0; first < 9; first++) {
                int second = first / 3 * 3 + (first + 1) % 3;
                LaunchRange x = new LaunchRange();
                Check.same("all", x.inhibit(first, false), 3);
                Check.same("two", x.inhibit(first, true), 2);
                Check.same("two again", x.inhibit(first, true), 2);
                Check.same("one", x.inhibit(second, true), 1);
                Check.same("one again", x.inhibit(first, true), 1);
                Check.same("two, taken back", x.inhibit(first, false), 2);
                Check.same("all, taken back", x.inhibit(second, false), 3);
                Check.same("other ones", x.inhibit((first + 3) % 9, false), 3);
            }
        });
        Edges.test(11, "if there is no such sensor", () -> {
            LaunchRange x = new LaunchRange();
            x.inhibit(8, true);
            x.inhibit(7, true);
            Check.refuses(x, ARGUMENT, "behind the last one", () -> x.inhibit(9, true));
            Check.refuses(x, ARGUMENT, "ahead of the first one", () -> x.inhibit(-1, false));
        });
        Edges.test(11, "if none would count", () -> {
            for (int last = 0; last < 9; last++) {
                LaunchRange x = new LaunchRange();
                int other = last / 3 * 3 + (last + 1) % 3;
                int sensor = last;
                x.inhibit(other, true);
                x.inhibit(last / 3 * 3 + (last + 2) % 3, true);
                Check.refuses(x, UNSUPPORTED, "the last one", () -> x.inhibit(sensor, true));
                Check.same("it counts anyhow", x.inhibit(last, false), 1);
                Check.same("one is left out already", x.inhibit(other, true), 1);
                x.inhibit(other, false);
                Check.same("now another one counts", x.inhibit(last, true), 1);
                Check.refuses(x, UNSUPPORTED, "the last one now", () -> x.inhibit(other, true));
            }
        });
    }

    private static void setWind() {
        Edges.test(12, "`wind`: the wind, 0 to 200", () -> Edges.bounds("the wind", 0, 200, ARGUMENT,
                LaunchRange::new, (x, n) -> x.setWind(n)));
        Edges.test(12, "Returns the wind before.", () -> {
            LaunchRange x = withRules(1);
            Check.same("0 at first", x.setWind(200), 0);
            Check.same("the greatest", x.setWind(200), 200);
            Check.same("the same again", x.setWind(0), 200);
            Check.same("the least", x.setWind(1), 0);
            Check.same("it blows", x.value(0), 1);
        });
        Edges.test(12, "if it is out of range", () -> {
            LaunchRange x = withRules(1);
            x.setWind(200);
            Check.refuses(x, ARGUMENT, "too strong", () -> x.setWind(201));
            Check.refuses(x, ARGUMENT, "too weak", () -> x.setWind(-1));
            Check.same("it blows as before", x.value(0), 200);
        });
    }

    private static void strike() {
        Edges.test(13, "`distance`: how far away, 0 to 99", () -> Edges.bounds("the distance", 0, 99, ARGUMENT,
                LaunchRange::new, (x, n) -> x.strike(n)));
        Edges.test(13, "Returns how many were near, at most 20 away, in this second and the 599 ahead of it.", () -> {
            for (int distance = 0; distance < 100; distance++) {
                LaunchRange x = new LaunchRange();
                Check.same("at " + distance, x.strike(distance), distance <= 20 ? 1 : 0);
                Check.same("two at " + distance, x.strike(distance), distance <= 20 ? 2 : 0);
            }
            LaunchRange y = new LaunchRange();
            y.addRule('l', 0, 0, 0, 0);
            for (int i = 0; i < 500; i++) {
                Check.same("one in each second", y.strike(i % 21), i + 1);
                y.pass(1);
            }
            y.pass(99);
            Check.same("in the second 599 all", y.strike(99), 500);
            for (int i = 1; i <= 7; i++) {
                y.pass(1);
                Check.same("one less in each second", y.strike(21), 500 - i);
            }
            y.pass(600);
            Check.same("none", y.value(0), 0);
        });
        Edges.test(13, "if it is out of range", () -> {
            LaunchRange x = new LaunchRange();
            x.strike(20);
            Check.refuses(x, ARGUMENT, "too far", () -> x.strike(100));
            Check.refuses(x, ARGUMENT, "too near", () -> x.strike(-1));
            Check.same("only the one", x.strike(99), 1);
        });
    }

    private static void boat() {
        Edges.test(14, "`boat`: the boat, 0 to 7", () -> {
            Edges.bounds("the boat", 0, 7, ARGUMENT, LaunchRange::new, (x, n) -> x.boat(n, 1, 1));
            LaunchRange x = new LaunchRange();
            for (int i = 0; i < 8; i++) {
                Check.same("one boat more", x.boat(i, 1, 0), 100 * (i + 1));
            }
            for (int i = 0; i < 8; i++) {
                Check.same("the same boat anew", x.boat(i, 1, 10), 700 - 100 * i);
            }
        });
        Edges.test(14, "`people`: how many people, 0 to 50", () -> Edges.bounds("the people", 0, 50, ARGUMENT,
                LaunchRange::new, (x, n) -> x.boat(0, n, 1)));
        Edges.test(14, "`distance`: how far it is from the way of the rocket, 0 to 99",
                () -> Edges.bounds("the distance", 0, 99, ARGUMENT, LaunchRange::new, (x, n) -> x.boat(0, 1, n)));
        Edges.test(14, "Returns the risk of all boats.", () -> {
            int[][] cases = {{50, 0, 5000}, {50, 1, 4500}, {50, 9, 500}, {50, 10, 0}, {50, 11, 0}, {50, 99, 0},
                {0, 0, 0}, {0, 99, 0}, {1, 9, 10}, {3, 4, 180}};
            for (int[] c : cases) {
                LaunchRange x = new LaunchRange();
                Check.same(c[0] + " people at " + c[1], x.boat(3, c[0], c[1]), c[2]);
                Check.same("together with another boat", x.boat(4, 1, 0), c[2] + 100);
                Check.same("as is told", x.risk(), c[2] + 100);
            }
        });
        Edges.test(14, "if a number is out of range", () -> {
            LaunchRange x = new LaunchRange();
            x.boat(7, 50, 0);
            Check.refuses(x, ARGUMENT, "people too many", () -> x.boat(7, 51, 0));
            Check.refuses(x, ARGUMENT, "too far away", () -> x.boat(7, 0, 100));
            Check.refuses(x, ARGUMENT, "all wrong", () -> x.boat(8, -1, -1));
            Check.same("as before", x.risk(), 5000);
        });
    }

    private static void addRule() {
        Edges.test(15, "`kind`: 't' a tank, 's' a measure, 'w' the wind, 'l' near lightnings, 'b' the risk of boats,"
                + " 'g' a console that says go", EdgesOfRulesAndPeopleTest::kindsOfRules);
        Edges.test(15, "`about`: the tank, the measure 0 to 2, or the console; of no meaning otherwise", () -> {
            Edges.bounds("about a tank", 0, 2, ARGUMENT, LaunchRange::new, (x, n) -> x.addRule('t', n, 0, 0, 0));
            Edges.bounds("about a measure", 0, 2, ARGUMENT, LaunchRange::new, (x, n) -> x.addRule('s', n, 0, 0, 0));
            Edges.bounds("about a console", 0, 5, ARGUMENT, LaunchRange::new, (x, n) -> x.addRule('g', n, 0, 0, 0));
            for (char kind : new char[] {'w', 'l', 'b'}) {
                for (int about : new int[] {-1, 0, 2, 3, 5, 6, 12, Integer.MIN_VALUE, Integer.MAX_VALUE}) {
                    LaunchRange x = new LaunchRange();
                    Check.same("about of no meaning", x.addRule(kind, about, 0, 0, 0), 0);
                    Check.same("its value", x.value(0), 0);
                }
            }
        });
        Edges.test(15, "`seconds`: for how long it must hold, 0 to 300", () -> Edges.bounds("the seconds", 0, 300,
                ARGUMENT, LaunchRange::new, (x, n) -> x.addRule('w', 0, 0, 0, n)));
        Edges.test(15, "Returns its number.", () -> {
            LaunchRange x = new LaunchRange();
            for (int i = 0; i < 12; i++) {
                Check.same("its number", x.addRule("tswlbg".charAt(i % 6), i % 3, 0, 0, 0), i);
            }
        });
        Edges.test(15, "if there is no such kind, or tank, measure or console, the least value is greater than the"
                + " other one, or the seconds are out of range", EdgesOfRulesAndPeopleTest::refusedRules);
        Edges.test(15, "if there are 12", () -> {
            LaunchRange x = withRules(12);
            for (char kind : new char[] {'t', 's', 'w', 'l', 'b', 'g'}) {
                Check.refuses(x, STATE, "the 13th", () -> x.addRule(kind, 0, 0, 0, 0));
            }
            Check.same("the last one", x.value(11), 0);
            LaunchRange y = Ranges.beyond();
            for (int i = 0; i < 12; i++) {
                Check.same("behind all counts", y.addRule('w', 0, 0, 0, 0), i);
            }
            Check.refuses(y, STATE, "the 13th, behind all counts", () -> y.addRule('w', 0, 0, 0, 0));
        });
    }

    private static void kindsOfRules() {
        for (char kind = 0; kind < 300; kind++) {
            LaunchRange x = new LaunchRange();
            char k = kind;
            if ("tswlbg".indexOf(kind) >= 0) {
                Check.same("a kind", x.addRule(kind, 0, 0, 0, 0), 0);
            } else {
                Check.refuses(x, ARGUMENT, "no kind " + (int) kind, () -> x.addRule(k, 0, 0, 0, 0));
            }
        }
        for (char kind : new char[] {(char) ('t' + 256), (char) ('g' + 65280), (char) 65535}) {
            LaunchRange x = new LaunchRange();
            Check.refuses(x, ARGUMENT, "no kind " + (int) kind, () -> x.addRule(kind, 0, 0, 0, 0));
        }
    }

    private static void refusedRules() {
        LaunchRange x = withRules(11);
        int[][] wrong = {{1, 0}, {0, -1}, {10000, 9999}, {Integer.MAX_VALUE, Integer.MAX_VALUE - 1},
            {Integer.MIN_VALUE + 1, Integer.MIN_VALUE}, {Integer.MAX_VALUE, Integer.MIN_VALUE}, {0, Integer.MIN_VALUE}};
        for (int[] w : wrong) {
            Check.refuses(x, ARGUMENT, w[0] + " to " + w[1], () -> x.addRule('w', 0, w[0], w[1], 0));
        }
        Check.refuses(x, ARGUMENT, "all wrong", () -> x.addRule('x', 9, 1, 0, 301));
        Check.refuses(x, ARGUMENT, "only the seconds wrong", () -> x.addRule('g', 5, 0, 1, 301));
        Check.refuses(x, ARGUMENT, "only the console wrong", () -> x.addRule('g', 6, 0, 1, 300));
        Check.same("the next number", x.addRule('g', 5, Integer.MIN_VALUE, Integer.MAX_VALUE, 300), 11);
    }

    private static void mayWaive() {
        Edges.test(16, "`console`: the console, 0 to 5", () -> {
            Edges.bounds("the console", 0, 5, ARGUMENT, () -> withRules(1), (x, n) -> x.mayWaive(0, n) ? 1 : 0);
            Edges.bounds("the console, last rule", 0, 5, ARGUMENT, () -> withRules(12),
                    (x, n) -> x.mayWaive(11, n) ? 1 : 0);
        });
        Edges.test(16, "Returns whether it could not.", () -> {
            LaunchRange x = withRules(12);
            for (int rule = 0; rule < 12; rule++) {
                for (int console = 0; console < 6; console++) {
                    Check.is("could not", x.mayWaive(rule, console), true);
                    Check.is("can", x.mayWaive(rule, console), false);
                }
            }
            Check.is("still can", x.mayWaive(0, 0), false);
        });
        Edges.test(16, "if there is no such rule", () -> refusesRules((x, n) -> x.mayWaive(n, 0) ? 1 : 0));
        Edges.test(16, "if there is no such console", () -> {
            LaunchRange x = withRules(1);
            Check.refuses(x, ARGUMENT, "behind the last one", () -> x.mayWaive(0, 6) ? 1 : 0);
            Check.refuses(x, ARGUMENT, "ahead of the first one", () -> x.mayWaive(0, -1) ? 1 : 0);
            Check.refuses(x, ARGUMENT, "as a shift would wrap around", () -> x.mayWaive(0, 32) ? 1 : 0);
            Check.is("none could", x.mayWaive(0, 0), true);
        });
    }

    private static LaunchRange waivable() {
        LaunchRange x = Ranges.held();
        for (int console = 0; console < 6; console++) {
            x.mayWaive(0, console);
        }
        return x;
    }

    private static void waive() {
        Edges.test(17, "`console`: the console, 0 to 5", () -> Edges.bounds("the console", 0, 5, ARGUMENT,
                EdgesOfRulesAndPeopleTest::waivable, (x, n) -> x.waive(0, n, 0) ? 1 : 0));
        Edges.test(17, "if there is no such console, or the count is not -600 to 0", () -> Edges.bounds("the count",
                -600, 0, ARGUMENT, EdgesOfRulesAndPeopleTest::waivable, (x, n) -> x.waive(0, 0, n) ? 1 : 0));
        Edges.test(17, "Returns whether it was waived at this count.", () -> {
            LaunchRange x = waivable();
            Check.is("never waived", x.waive(0, 0, -10), false);
            Check.is("waived up to this count", x.waive(0, 0, -11), true);
            Check.is("waived up to one ahead of it", x.waive(0, 0, -9), false);
            Check.is("waived up to the next one", x.waive(0, 0, -9), true);
            x.pass(1);
            Check.is("waived up to this count, now", x.waive(0, 0, -9), true);
            x.pass(1);
            Check.is("waived up to the one ahead of it, now", x.waive(0, 0, 0), false);
        });
        Edges.test(17, "if there is no such rule", () -> {
            for (int rules : new int[] {0, 1, 12}) {
                LaunchRange x = withRules(rules);
                for (int rule = 0; rule < rules; rule++) {
                    x.mayWaive(rule, 0);
                    Check.is("the rule " + rule, x.waive(rule, 0, 0), false);
                }
                for (int n : new int[] {-1, rules, 12, 13, Integer.MIN_VALUE, Integer.MAX_VALUE}) {
                    Check.refuses(x, INDEX, "the rule " + n + " of " + rules, () -> x.waive(n, 0, 0) ? 1 : 0);
                }
            }
        });
        Edges.test(17, "if this console may not", () -> {
            for (int who = 0; who < 6; who++) {
                LaunchRange x = Ranges.held();
                x.addRule('w', 0, 1, 1, 0);
                x.mayWaive(0, who);
                for (int console = 0; console < 6; console++) {
                    int c = console;
                    if (console != who) {
                        Check.refuses(x, UNSUPPORTED, "another console", () -> x.waive(0, c, 0) ? 1 : 0);
                    }
                    Check.refuses(x, UNSUPPORTED, "another rule", () -> x.waive(1, c, 0) ? 1 : 0);
                }
                Check.is("not waived", x.waive(0, who, 0), false);
                Check.is("waived", x.isMet(0), true);
            }
        });
    }

    private static void go() {
        Edges.test(18, "`console`: the console, 0 to 5", () -> {
            Edges.bounds("the console that says go", 0, 5, ARGUMENT, LaunchRange::new, (x, n) -> x.go(n, true) ? 1 : 0);
            Edges.bounds("that says no go", 0, 5, ARGUMENT, LaunchRange::new, (x, n) -> x.go(n, false) ? 1 : 0);
        });
        Edges.test(18, "Returns whether it said go.", () -> {
            LaunchRange x = new LaunchRange();
            for (int console = 0; console < 6; console++) {
                Check.is("at first", x.go(console, false), false);
                Check.is("no go again", x.go(console, true), false);
                Check.is("go", x.go(console, true), true);
                Check.is("go again", x.go(console, false), true);
                Check.is("no go", x.go(console, true), false);
            }
        });
        Edges.test(18, "if there is no such console", () -> {
            LaunchRange x = new LaunchRange();
            x.addRule('g', 5, 1, 1, 0);
            x.go(5, true);
            Check.refuses(x, ARGUMENT, "behind the last one", () -> x.go(6, false) ? 1 : 0);
            Check.refuses(x, ARGUMENT, "ahead of the first one", () -> x.go(-1, false) ? 1 : 0);
            Check.same("the last one still says go", x.value(0), 1);
        });
    }

    private static void value() {
        Edges.test(19, "Returns the value; 1 or 0 for a console.", () -> {
            LaunchRange x = new LaunchRange();
            x.addRule('t', 2, 0, 0, 0);
            x.addRule('s', 2, 0, 0, 0);
            x.addRule('w', 0, 0, 0, 0);
            x.addRule('l', 0, 0, 0, 0);
            x.addRule('b', 0, 0, 0, 0);
            x.addRule('g', 5, 0, 0, 0);
            x.setTank(2, 100000, 1000, 0);
            x.setValve(2, true);
            x.pass(100);
            x.inhibit(7, true);
            x.sense(6, -9999);
            x.sense(8, -9999);
            x.setWind(200);
            for (int i = 0; i < 8; i++) {
                x.boat(i, 50, 0);
            }
            x.go(5, true);
            long[] due = {100000, -9999, 200, 0, 40000, 1};
            for (int i = 0; i < 6; i++) {
                Check.same("at its end", x.value(i), due[i]);
            }
            x.go(5, false);
            Check.same("0", x.value(5), 0);
        });
        Edges.test(19, "if there is no such rule", () -> refusesRules((x, n) -> x.value(n)));
    }

    private static void holdsFor() {
        Edges.test(20, "Returns the number of seconds.", () -> {
            LaunchRange x = withRules(1);
            Check.same("none", x.holdsFor(0), 0);
            for (int i = 0; i < 166; i++) {
                x.pass(600);
            }
            x.pass(400);
            Check.same("in all seconds that there are", x.holdsFor(0), 100000);
            LaunchRange y = new LaunchRange();
            y.pass(600);
            y.addRule('w', 0, 0, 0, 300);
            Check.same("not ahead of being added", y.holdsFor(0), 0);
            y.pass(1);
            Check.same("from then on", y.holdsFor(0), 1);
        });
        Edges.test(20, "if there is no such rule", () -> refusesRules((x, n) -> x.holdsFor(n)));
    }

    private static void isMet() {
        Edges.test(21, "Returns whether a rule is met, or waived.", () -> {
            LaunchRange x = new LaunchRange();
            x.addRule('w', 0, 0, 10, 2);
            x.begin(-10, 0, 5000);
            x.pass(1);
            Check.is("neither", x.isMet(0), false);
            x.mayWaive(0, 5);
            Check.is("one who may, but did not", x.isMet(0), false);
            x.waive(0, 5, -10);
            Check.is("waived", x.isMet(0), true);
            x.pass(1);
            x.waive(0, 5, -600);
            Check.is("met", x.isMet(0), true);
            x.waive(0, 5, 0);
            Check.is("both", x.isMet(0), true);
            x.setWind(11);
            Check.is("waived, though it does not hold", x.isMet(0), true);
        });
        Edges.test(21, "if there is no such rule", () -> refusesRules((x, n) -> x.isMet(n) ? 1 : 0));
    }
}

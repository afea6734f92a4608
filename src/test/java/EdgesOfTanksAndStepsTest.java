/** The edges that promises 1 to 9 name, a test each. */
final class EdgesOfTanksAndStepsTest {
    private static final Class<IllegalArgumentException> ARGUMENT = IllegalArgumentException.class;
    private static final Class<IllegalStateException> STATE = IllegalStateException.class;
    private static final Class<IndexOutOfBoundsException> INDEX = IndexOutOfBoundsException.class;
    private static final Class<UnsupportedOperationException> UNSUPPORTED = UnsupportedOperationException.class;

    private EdgesOfTanksAndStepsTest() {
    }

    static void run() {
        newObject();
        setTank();
        setValve();
        drain();
        inTank();
        addStep();
        setAfter();
        stepState();
        addMark();
    }

    private static LaunchRange withSteps(int number) {
        LaunchRange x = new LaunchRange();
        for (int i = 0; i < number; i++) {
            x.addStep(-10, 1);
        }
        return x;
    }

    /** All the states in which no step and no mark may be added. */
    private static LaunchRange[] fixed() {
        LaunchRange counting = withSteps(2);
        counting.begin(-10, 0, 5000);
        LaunchRange held = withSteps(2);
        held.addRule('w', 0, 1, 1, 0);
        held.begin(-10, 0, 5000);
        held.pass(1);
        LaunchRange flying = withSteps(2);
        flying.begin(-10, 0, 5000);
        flying.pass(10);
        LaunchRange destroyed = withSteps(2);
        destroyed.begin(-10, 0, 5000);
        destroyed.track(0, 101);
        destroyed.track(1, 101);
        destroyed.pass(11);
        LaunchRange beyond = withSteps(2);
        beyond.begin(-10, 0, 5000);
        beyond.pass(70);
        LaunchRange[] all = {counting, held, flying, destroyed, beyond};
        StringBuilder states = new StringBuilder();
        for (LaunchRange x : all) {
            states.append(x.state());
        }
        Check.text("the states", states.toString(), "chfxo");
        return all;
    }

    private static LaunchRange calledOff(int steps) {
        LaunchRange x = withSteps(steps);
        x.begin(-10, 0, 5000);
        x.scrub();
        return x;
    }

    private static void newObject() {
        Edges.test(1, "Creates a range without steps, marks and rules, with empty tanks without room, at the second 0",
                () -> {
                    LaunchRange x = new LaunchRange();
                    Check.refuses(x, INDEX, "no step", () -> x.stepState(0));
                    Check.refuses(x, INDEX, "no mark", () -> x.recycle(0));
                    Check.refuses(x, INDEX, "no rule", () -> x.value(0));
                    for (int i = 0; i < 3; i++) {
                        Check.same("empty", x.inTank(i), 0);
                        x.setValve(i, true);
                    }
                    Check.refuses(x, ArithmeticException.class, "no room", () -> (long) x.meanFill());
                    Check.same("second", x.second(), 0);
                    x.pass(1);
                    Check.same("still empty", x.inTank(0) + x.inTank(1) + x.inTank(2), 0);
                });
    }

    private static void setTank() {
        Edges.test(2, "Sets a tank; it has at most its room.", EdgesOfTanksAndStepsTest::atMostItsRoom);
        Edges.test(2, "`tank`: the tank, 0 to 2",
                () -> Edges.bounds("the tank", 0, 2, ARGUMENT, LaunchRange::new, (x, n) -> x.setTank(n, 1, 1, 1)));
        Edges.test(2, "`room`: how much it holds, 0 to 100000", () -> {
            Edges.bounds("the room", 0, 100000, ARGUMENT, LaunchRange::new, (x, n) -> x.setTank(0, n, 1, 1));
            for (int room : new int[] {0, 1, 99999, 100000}) {
                LaunchRange x = new LaunchRange();
                x.setTank(1, room, 1000, 0);
                x.setValve(1, true);
                x.pass(101);
                Check.same("full at " + room, x.inTank(1), room);
            }
        });
        Edges.test(2, "`rate`: how much comes in each second, 0 to 1000", () -> {
            Edges.bounds("the rate", 0, 1000, ARGUMENT, LaunchRange::new, (x, n) -> x.setTank(0, 1, n, 1));
            for (int rate : new int[] {0, 1, 999, 1000}) {
                LaunchRange x = new LaunchRange();
                x.setTank(1, 100000, rate, 0);
                x.setValve(1, true);
                x.pass(2);
                Check.same("in 2 seconds at " + rate, x.inTank(1), 2 * rate);
            }
        });
        Edges.test(2, "`boil`: how much boils off, in thousandths each second, 0 to 100", () -> {
            Edges.bounds("the boil", 0, 100, ARGUMENT, LaunchRange::new, (x, n) -> x.setTank(0, 1, 1, n));
            for (int boil : new int[] {0, 1, 99, 100}) {
                LaunchRange x = new LaunchRange();
                x.setTank(1, 1000, 1000, 0);
                x.setValve(1, true);
                x.pass(1);
                x.setTank(1, 1000, 0, boil);
                x.pass(1);
                Check.same("of 1000 at " + boil, x.inTank(1), 1000 - boil);
            }
        });
        Edges.test(2, "if there is no such tank, or a number is out of range", () -> {
            LaunchRange x = new LaunchRange();
            x.setTank(2, 100, 100, 0);
            x.setValve(2, true);
            x.pass(1);
            Check.refuses(x, ARGUMENT, "less room, but a wrong rate", () -> x.setTank(2, 50, 1001, 0));
            Check.refuses(x, ARGUMENT, "less room, but a wrong boil", () -> x.setTank(2, 50, 0, -1));
            Check.refuses(x, ARGUMENT, "all wrong", () -> x.setTank(3, -1, -1, -1));
            Check.same("full still", x.inTank(2), 100);
        });
    }

    private static void atMostItsRoom() {
        int[][] cases = {{101, 100}, {100, 100}, {99, 99}, {1, 1}, {0, 0}};
        for (int[] c : cases) {
            LaunchRange x = new LaunchRange();
            x.setTank(0, 100, 100, 0);
            x.setValve(0, true);
            x.pass(1);
            Check.same("100 and room for " + c[0], x.setTank(0, c[0], 0, 0), c[1]);
            Check.same("in it", x.inTank(0), c[1]);
            Check.same("what is over is gone for good", x.setTank(0, 100000, 0, 0), c[1]);
            Check.is("sound", x.isSound(), true);
        }
    }

    private static void setValve() {
        Edges.test(3, "`tank`: the tank, 0 to 2", () -> {
            Edges.bounds("the tank", 0, 2, ARGUMENT, LaunchRange::new, (x, n) -> x.setValve(n, true) ? 1 : 0);
            for (int tank = 0; tank < 3; tank++) {
                LaunchRange x = new LaunchRange();
                for (int i = 0; i < 3; i++) {
                    x.setTank(i, 10, 1, 0);
                }
                x.setValve(tank, true);
                x.pass(1);
                for (int i = 0; i < 3; i++) {
                    Check.same("only the open one fills", x.inTank(i), i == tank ? 1 : 0);
                }
            }
        });
        Edges.test(3, "Returns whether it was open.", () -> {
            LaunchRange x = new LaunchRange();
            Check.is("shut at first", x.setValve(0, false), false);
            Check.is("shut again", x.setValve(0, true), false);
            x.setTank(0, 0, 0, 0);
            Check.is("open, also without room", x.setValve(0, true), true);
            Check.is("open again", x.setValve(0, false), true);
            Check.is("shut", x.setValve(0, false), false);
        });
        Edges.test(3, "if there is no such tank", () -> {
            LaunchRange x = new LaunchRange();
            x.setValve(2, true);
            Check.refuses(x, ARGUMENT, "to open", () -> x.setValve(3, true) ? 1 : 0);
            Check.refuses(x, ARGUMENT, "to shut", () -> x.setValve(-1, false) ? 1 : 0);
        });
    }

    private static void drain() {
        Edges.test(4, "`tank`: the tank, 0 to 2",
                () -> Edges.bounds("the tank", 0, 2, ARGUMENT, LaunchRange::new, (x, n) -> x.drain(n, 1)));
        Edges.test(4, "`amount`: how much, 1 to 100000",
                () -> Edges.bounds("the amount", 1, 100000, ARGUMENT, LaunchRange::new, (x, n) -> x.drain(0, n)));
        Edges.test(4, "Returns how much went.", () -> {
            int[][] cases = {{1, 1}, {99, 99}, {100, 100}, {101, 100}, {100000, 100}};
            for (int[] c : cases) {
                LaunchRange x = new LaunchRange();
                x.setTank(2, 100, 100, 0);
                Check.same("of an empty tank", x.drain(2, c[0]), 0);
                x.setValve(2, true);
                x.pass(1);
                Check.same(c[0] + " of 100", x.drain(2, c[0]), c[1]);
                Check.same("what is left", x.inTank(2), 100 - c[1]);
            }
        });
        Edges.test(4, "if there is no such tank, or the amount is out of range", () -> {
            LaunchRange x = new LaunchRange();
            x.setTank(0, 100, 100, 0);
            x.setValve(0, true);
            x.pass(1);
            Check.refuses(x, ARGUMENT, "nothing of a full tank", () -> x.drain(0, 0));
            Check.refuses(x, ARGUMENT, "too much of a full tank", () -> x.drain(0, 100001));
            Check.refuses(x, ARGUMENT, "no such tank, no such amount", () -> x.drain(3, 0));
        });
    }

    private static void inTank() {
        Edges.test(5, "`tank`: the tank, 0 to 2",
                () -> Edges.bounds("the tank", 0, 2, ARGUMENT, LaunchRange::new, (x, n) -> x.inTank(n)));
        Edges.test(5, "if there is no such tank", () -> {
            LaunchRange x = new LaunchRange();
            x.setTank(2, 100000, 1000, 0);
            x.setValve(2, true);
            x.pass(600);
            Check.refuses(x, ARGUMENT, "behind a filled one", () -> x.inTank(3));
            Check.same("the filled one", x.inTank(2), 100000);
        });
    }

    private static void addStep() {
        Edges.test(6, "`from`: the count from which on it can begin, -600 to -1", () -> Edges.bounds("from", -600, -1,
                ARGUMENT, LaunchRange::new, (x, n) -> x.addStep(n, 1)));
        Edges.test(6, "`seconds`: how long it takes, 1 to 300", () -> Edges.bounds("the seconds", 1, 300, ARGUMENT,
                LaunchRange::new, (x, n) -> x.addStep(-1, n)));
        Edges.test(6, "Returns its number.", () -> {
            LaunchRange x = new LaunchRange();
            for (int i = 0; i < 16; i++) {
                Check.same("its number", x.addStep(-1 - i, 1), i);
            }
        });
        Edges.test(6, "if a number is out of range", () -> {
            LaunchRange x = withSteps(15);
            Check.refuses(x, ARGUMENT, "both wrong", () -> x.addStep(0, 0));
            Check.same("the last one still has its number", x.addStep(-1, 1), 15);
            Check.refuses(x, ARGUMENT, "wrong and too many", () -> x.addStep(0, 1));
        });
        Edges.test(6, "if there are 16, a count goes on, or the rocket has left", () -> {
            LaunchRange x = withSteps(16);
            Check.refuses(x, STATE, "the 17th", () -> x.addStep(-1, 1));
            for (LaunchRange y : fixed()) {
                Check.refuses(y, STATE, "in the state " + y.state(), () -> y.addStep(-1, 1));
            }
            LaunchRange z = calledOff(15);
            Check.same("the 16th, when called off", z.addStep(-1, 1), 15);
            Check.refuses(z, STATE, "the 17th, when called off", () -> z.addStep(-1, 1));
        });
    }

    private static void setAfter() {
        Edges.test(7, "`other`: a step with a lower number, which must be done ahead of it", () -> {
            LaunchRange x = withSteps(3);
            Check.same("the one below", x.setAfter(2, 1), 1);
            x.begin(-10, 0, 5000);
            x.pass(1);
            Check.text("the one behind waits", Look.stepStates(x), "rr-");
            x.pass(1);
            Check.text("the other one is done", Look.stepStates(x), "eer");
        });
        Edges.test(7, "Returns how many it is behind.", () -> {
            LaunchRange x = withSteps(16);
            for (int i = 0; i < 15; i++) {
                Check.same("one more", x.setAfter(15, i), i + 1);
                Check.same("the same again", x.setAfter(15, i), i + 1);
            }
            Check.same("another step", x.setAfter(1, 0), 1);
        });
        Edges.test(7, "if there is no such step, for either", () -> {
            LaunchRange x = withSteps(16);
            for (int n : new int[] {-1, 16, 31, 32, Integer.MIN_VALUE, Integer.MAX_VALUE}) {
                Check.refuses(x, INDEX, "the step " + n, () -> x.setAfter(n, 0));
                Check.refuses(x, INDEX, "the other " + n, () -> x.setAfter(15, n));
                Check.refuses(x, INDEX, "both " + n, () -> x.setAfter(n, n));
            }
            Check.same("the last one", x.setAfter(15, 14), 1);
            Check.same("the first one", x.setAfter(1, 0), 1);
            LaunchRange y = new LaunchRange();
            Check.refuses(y, INDEX, "none at all", () -> y.setAfter(1, 0));
            LaunchRange z = withSteps(1);
            Check.refuses(z, INDEX, "only one", () -> z.setAfter(1, 0));
        });
        Edges.test(7, "if the other one has no lower number", () -> {
            LaunchRange x = withSteps(16);
            Check.refuses(x, ARGUMENT, "the first one itself", () -> x.setAfter(0, 0));
            Check.refuses(x, ARGUMENT, "the last one itself", () -> x.setAfter(15, 15));
            Check.refuses(x, ARGUMENT, "the next one", () -> x.setAfter(3, 4));
            Check.refuses(x, ARGUMENT, "the last one", () -> x.setAfter(0, 15));
        });
        Edges.test(7, "Throws `IllegalStateException` if a count goes on, or the rocket has left", () -> {
            for (LaunchRange y : fixed()) {
                Check.refuses(y, STATE, "in the state " + y.state(), () -> y.setAfter(1, 0));
            }
            Check.same("when called off", calledOff(2).setAfter(1, 0), 1);
        });
    }

    private static void stepState() {
        Edges.test(8, "Returns '-' not begun, 'r' running, 'e' done.", () -> {
            LaunchRange x = withSteps(16);
            x.begin(-11, 0, 5000);
            x.pass(1);
            Check.text("at -11", Look.stepStates(x), "----------------");
            x.pass(1);
            Check.text("at -10", Look.stepStates(x), "rrrrrrrrrrrrrrrr");
            x.pass(1);
            Check.text("at -9", Look.stepStates(x), "eeeeeeeeeeeeeeee");
        });
        Edges.test(8, "if there is no such step", () -> {
            Edges.bounds("the step", 0, 15, INDEX, () -> withSteps(16), (x, n) -> x.stepState(n));
            LaunchRange y = new LaunchRange();
            Check.refuses(y, INDEX, "none at all", () -> y.stepState(0));
            LaunchRange z = withSteps(1);
            Check.refuses(z, INDEX, "only one", () -> z.stepState(1));
        });
    }

    private static void addMark() {
        Edges.test(9, "`count`: the count, -600 to -1", () -> Edges.bounds("the count", -600, -1, ARGUMENT,
                LaunchRange::new, (x, n) -> x.addMark(n, 1, 0)));
        Edges.test(9, "`seconds`: how long it holds at least, 0 to 300", () -> Edges.bounds("the seconds", 0, 300,
                ARGUMENT, LaunchRange::new, (x, n) -> x.addMark(-1, n, 0)));
        Edges.test(9, "`steps`: the sum of 2 to the power of each step that must be done",
                EdgesOfTanksAndStepsTest::stepsOfAMark);
        Edges.test(9, "Adds a hold that is built in.", EdgesOfTanksAndStepsTest::marksInEachOrder);
        Edges.test(9, "Returns how many marks there are.", () -> {
            LaunchRange x = new LaunchRange();
            for (int i = 0; i < 6; i++) {
                Check.same("a mark more", x.addMark(-600 + 100 * (i * 5 % 6), 0, 0), i + 1);
            }
        });
        Edges.test(9, "if a number is out of range, or there is a mark of this count", () -> {
            LaunchRange x = new LaunchRange();
            x.addMark(-600, 5, 0);
            x.addMark(-1, 0, 0);
            x.addMark(-300, 0, 0);
            for (int count : new int[] {-600, -1, -300}) {
                Check.refuses(x, ARGUMENT, "the same count", () -> x.addMark(count, 5, 0));
                Check.refuses(x, ARGUMENT, "the same count, other seconds", () -> x.addMark(count, 6, 0));
            }
            Check.same("the next count", x.addMark(-299, 0, 0), 4);
        });
        Edges.test(9, "if there is no such step, for any", () -> {
            for (int steps : new int[] {0, 1, 15, 16}) {
                LaunchRange x = withSteps(steps);
                Check.refuses(x, UNSUPPORTED, "the next step of " + steps, () -> x.addMark(-1, 0, 1 << steps));
                Check.refuses(x, UNSUPPORTED, "all and the next", () -> x.addMark(-1, 0, (1 << steps + 1) - 1));
                Check.refuses(x, UNSUPPORTED, "less than 0", () -> x.addMark(-1, 0, -1));
                Check.refuses(x, UNSUPPORTED, "the least", () -> x.addMark(-1, 0, Integer.MIN_VALUE));
                Check.refuses(x, UNSUPPORTED, "the greatest", () -> x.addMark(-1, 0, Integer.MAX_VALUE));
                Check.same("all", x.addMark(-1, 0, (1 << steps) - 1), 1);
            }
        });
        Edges.test(9, "if there are 6, a count goes on, or the rocket has left", () -> {
            LaunchRange x = new LaunchRange();
            for (int i = 1; i <= 6; i++) {
                x.addMark(-i, 0, 0);
            }
            Check.refuses(x, STATE, "the 7th", () -> x.addMark(-7, 0, 0));
            for (LaunchRange y : fixed()) {
                Check.refuses(y, STATE, "in the state " + y.state(), () -> y.addMark(-1, 0, 3));
            }
            Check.same("when called off", calledOff(1).addMark(-1, 0, 1), 1);
        });
    }

    private static void stepsOfAMark() {
        for (int step = 0; step < 16; step++) {
            LaunchRange x = new LaunchRange();
            for (int i = 0; i < 16; i++) {
                x.addStep(-10, i == step ? 5 : 20);
            }
            x.addMark(-9, 0, 1 << step);
            x.begin(-10, 0, 5000);
            x.pass(5);
            Check.same("waits for the step " + step, x.count(), -9);
            x.pass(1);
            Check.same("and for no other one", x.count(), -8);
        }
        LaunchRange y = new LaunchRange();
        y.addStep(-10, 20);
        y.addMark(-9, 0, 0);
        y.begin(-10, 0, 5000);
        y.pass(2);
        Check.same("waits for none", y.count(), -8);
        LaunchRange z = new LaunchRange();
        for (int i = 0; i < 16; i++) {
            z.addStep(-10, i == 7 ? 9 : 1);
        }
        z.addMark(-9, 0, 65535);
        z.begin(-10, 0, 5000);
        z.pass(9);
        Check.same("waits for all", z.count(), -9);
        z.pass(1);
        Check.same("all are done", z.count(), -8);
    }

    /** Each mark keeps its seconds and its steps, in whatever order the marks are added. */
    private static void marksInEachOrder() {
        int[] counts = {-9, -8, -7, -6};
        int[] seconds = {1, 4, 2, 3};
        int[] orders = {123, 132, 213, 231, 312, 321, 1023, 1032, 1203, 1230, 1302, 1320, 2013, 2031, 2103, 2130, 2301,
            2310, 3012, 3021, 3102, 3120, 3201, 3210};
        for (int order : orders) {
            LaunchRange x = withSteps(1);
            x.addStep(-7, 7);
            for (int place = 1000; place > 0; place /= 10) {
                int mark = order / place % 10;
                x.addMark(counts[mark], seconds[mark], mark == 3 ? 2 : mark == 0 ? 1 : 0);
            }
            x.begin(-10, 0, 5000);
            int[] due = {1, 2, 5, 3, 5};
            for (int count = -10; count < -5; count++) {
                int at = 0;
                while (x.count() == count && at < 100) {
                    x.pass(1);
                    at++;
                }
                Check.same("seconds at " + count + " in the order " + order, at, due[count + 10]);
            }
        }
    }
}

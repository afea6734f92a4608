/** Promises 1 to 9. */
final class TanksAndStepsTest {
    private static final Class<IllegalArgumentException> ARGUMENT = IllegalArgumentException.class;
    private static final Class<IllegalStateException> STATE = IllegalStateException.class;
    private static final Class<IndexOutOfBoundsException> INDEX = IndexOutOfBoundsException.class;
    private static final Class<UnsupportedOperationException> UNSUPPORTED = UnsupportedOperationException.class;

    private TanksAndStepsTest() {
    }

    static void run() {
        newObject();
        newObjectsShareNothing();
        setTank();
        boilsAheadOfFilling();
        setValve();
        drain();
        inTank();
        addStep();
        addStepWhileNotAllowed();
        setAfter();
        stepState();
        stepsRunInOrder();
        stepsStandAfterCallOff();
        addMark();
        addMarkWhileNotAllowed();
        marksHold();
        marksCountHoldsForOtherCauses();
        marksInAnyOrder();
    }

    private static void newObject() {
        Check.promise(1);
        LaunchRange x = new LaunchRange();
        Check.text("a new range", Look.at(x),
                "- 0 count none holds none cause none tanks 0,0,0 steps  rules risk 0 sum 6212525767"
                        + " met none fill none sound true log ");
        Check.refuses(x, INDEX, "recycle(0) on a new range", () -> x.recycle(0));
        Check.refuses(x, INDEX, "stepState(0) on a new range", () -> x.stepState(0));
        Check.refuses(x, INDEX, "value(0) on a new range", () -> x.value(0));
        Check.is("setValve at first", x.setValve(1, true), false);
        Check.is("go at first", x.go(5, true), false);
        Check.same("setWind at first", x.setWind(7), 0);
        Check.same("track at first", x.track(1, 5), 0);
        Check.same("strike at first", x.strike(21), 0);
        Check.same("inhibit at first", x.inhibit(4, false), 3);
        x.pass(1);
        Check.same("in a tank without room and rate", x.inTank(1), 0);
    }

    private static void newObjectsShareNothing() {
        LaunchRange x = new LaunchRange();
        x.setTank(0, 10, 10, 0);
        x.setValve(0, true);
        x.addStep(-5, 1);
        x.addMark(-3, 0, 0);
        x.addRule('w', 0, 0, 0, 0);
        x.strike(1);
        x.boat(0, 1, 1);
        x.begin(-10, 0, 100);
        x.pass(3);
        Check.text("another new range", Look.at(new LaunchRange()),
                "- 0 count none holds none cause none tanks 0,0,0 steps  rules risk 0 sum 6212525767"
                        + " met none fill none sound true log ");
    }

    private static void setTank() {
        Check.promise(2);
        LaunchRange x = new LaunchRange();
        Check.same("setTank of an empty one", x.setTank(0, 100, 30, 0), 0);
        x.setValve(0, true);
        x.pass(2);
        Check.same("filled for 2 seconds", x.inTank(0), 60);
        Check.same("setTank with more room", x.setTank(0, 200, 30, 0), 60);
        Check.same("setTank with less room", x.setTank(0, 50, 10, 0), 50);
        Check.same("in a tank of less room", x.inTank(0), 50);
        Check.same("setTank with room again", x.setTank(0, 100, 10, 0), 50);
        x.pass(1);
        Check.same("the valve stays open, the new rate comes", x.inTank(0), 60);
        Check.same("setTank without room", x.setTank(0, 0, 0, 0), 0);
        Check.same("setTank at the greatest", x.setTank(2, 100000, 1000, 100), 0);
        x.setValve(2, true);
        x.pass(1);
        Check.same("the greatest rate", x.inTank(2), 1000);
        x.setTank(2, 100000, 1000, 0);
        x.pass(500);
        Check.same("the greatest room", x.inTank(2), 100000);
        x.setTank(2, 100000, 0, 100);
        x.pass(1);
        Check.same("the greatest boil", x.inTank(2), 90000);
        Check.same("the least numbers", x.setTank(1, 0, 0, 0), 0);
        setTankRefuses(x);
    }

    private static void setTankRefuses(LaunchRange x) {
        int[][] wrong = {{-1, 1, 1, 1}, {3, 1, 1, 1}, {0, -1, 1, 1}, {0, 100001, 1, 1}, {0, 1, -1, 1},
            {0, 1, 1001, 1}, {0, 1, 1, -1}, {0, 1, 1, 101}, {Integer.MIN_VALUE, 1, 1, 1},
            {Integer.MAX_VALUE, 1, 1, 1}, {2, Integer.MIN_VALUE, 1, 1}, {2, 1, Integer.MAX_VALUE, 1}};
        for (int[] w : wrong) {
            Check.refuses(x, ARGUMENT, "setTank(" + w[0] + ", " + w[1] + ", " + w[2] + ", " + w[3] + ")",
                    () -> x.setTank(w[0], w[1], w[2], w[3]));
        }
        Check.refuses(x, ARGUMENT, "setTank with less room and a wrong rate", () -> x.setTank(2, 5, 1001, 0));
    }

    private static void boilsAheadOfFilling() {
        LaunchRange x = new LaunchRange();
        x.setTank(0, 100, 100, 0);
        x.setTank(1, 100, 19, 0);
        x.setTank(2, 100, 98, 0);
        for (int i = 0; i < 3; i++) {
            x.setValve(i, true);
        }
        x.pass(1);
        x.setTank(0, 100, 5, 100);
        x.setTank(1, 100, 50, 100);
        x.setTank(2, 100, 5, 0);
        x.setValve(1, false);
        x.pass(1);
        Check.same("10 of 100 boil, then 5 come", x.inTank(0), 95);
        Check.same("1.9 of 19 boil, cut", x.inTank(1), 18);
        Check.same("only 2 of 5 have room", x.inTank(2), 100);
        x.pass(1);
        Check.same("9 of 95 boil, then 5 come", x.inTank(0), 91);
        Check.same("1 of 18 boils", x.inTank(1), 17);
    }

    private static void setValve() {
        Check.promise(3);
        LaunchRange x = new LaunchRange();
        x.setTank(0, 100, 7, 0);
        x.setTank(2, 100, 7, 0);
        Check.is("setValve opens", x.setValve(0, true), false);
        Check.is("setValve opens again", x.setValve(0, true), true);
        Check.is("setValve of another tank", x.setValve(2, false), false);
        x.pass(1);
        Check.same("an open one fills", x.inTank(0), 7);
        Check.same("a shut one does not", x.inTank(2), 0);
        Check.is("setValve shuts", x.setValve(0, false), true);
        x.pass(1);
        Check.same("shut", x.inTank(0), 7);
        Check.is("setValve opens after shut", x.setValve(0, true), false);
        Check.refuses(x, ARGUMENT, "setValve(-1)", () -> x.setValve(-1, true) ? 1 : 0);
        Check.refuses(x, ARGUMENT, "setValve(3)", () -> x.setValve(3, false) ? 1 : 0);
        Check.refuses(x, ARGUMENT, "setValve(MAX)", () -> x.setValve(Integer.MAX_VALUE, false) ? 1 : 0);
    }

    private static void drain() {
        Check.promise(4);
        LaunchRange x = new LaunchRange();
        x.setTank(1, 1000, 100, 0);
        x.setValve(1, true);
        Check.same("drain of an empty tank", x.drain(1, 1), 0);
        x.pass(1);
        Check.same("drain of less", x.drain(1, 1), 1);
        Check.same("what is left", x.inTank(1), 99);
        Check.same("drain of just all", x.drain(1, 99), 99);
        x.pass(1);
        Check.same("drain of more", x.drain(1, 100000), 100);
        Check.same("nothing is left", x.inTank(1), 0);
        x.pass(1);
        int[][] wrong = {{-1, 1}, {3, 1}, {1, 0}, {1, -1}, {1, 100001}, {1, Integer.MIN_VALUE}};
        for (int[] w : wrong) {
            Check.refuses(x, ARGUMENT, "drain(" + w[0] + ", " + w[1] + ")", () -> x.drain(w[0], w[1]));
        }
    }

    private static void inTank() {
        Check.promise(5);
        LaunchRange x = new LaunchRange();
        for (int i = 0; i < 3; i++) {
            x.setTank(i, 100, i + 1, 0);
            x.setValve(i, true);
        }
        x.pass(2);
        Check.same("inTank(0)", x.inTank(0), 2);
        Check.same("inTank(1)", x.inTank(1), 4);
        Check.same("inTank(2)", x.inTank(2), 6);
        Check.refuses(x, ARGUMENT, "inTank(-1)", () -> x.inTank(-1));
        Check.refuses(x, ARGUMENT, "inTank(3)", () -> x.inTank(3));
        Check.refuses(x, ARGUMENT, "inTank(MIN)", () -> x.inTank(Integer.MIN_VALUE));
    }

    private static void addStep() {
        Check.promise(6);
        LaunchRange x = new LaunchRange();
        int[][] wrong = {{-601, 1}, {0, 1}, {1, 1}, {-1, 0}, {-1, 301}, {-1, -5}, {Integer.MIN_VALUE, 1},
            {-1, Integer.MAX_VALUE}};
        for (int[] w : wrong) {
            Check.refuses(x, ARGUMENT, "addStep(" + w[0] + ", " + w[1] + ")", () -> x.addStep(w[0], w[1]));
        }
        Check.same("the first step", x.addStep(-600, 1), 0);
        Check.same("the second step", x.addStep(-1, 300), 1);
        for (int i = 2; i < 16; i++) {
            Check.same("a step more", x.addStep(-20, 2), i);
        }
        Check.refuses(x, STATE, "a step too many", () -> x.addStep(-1, 1));
        Check.refuses(x, ARGUMENT, "a step too many, and wrong", () -> x.addStep(0, 1));
    }

    private static void addStepWhileNotAllowed() {
        LaunchRange x = new LaunchRange();
        x.addRule('w', 0, 0, 10, 0);
        x.begin(-10, 0, 100);
        Check.refuses(x, STATE, "addStep while counting", () -> x.addStep(-1, 1));
        Check.refuses(x, ARGUMENT, "addStep(-1, 0) while counting", () -> x.addStep(-1, 0));
        x.setWind(11);
        x.pass(1);
        Check.refuses(x, STATE, "addStep while held", () -> x.addStep(-1, 1));
        x.scrub();
        Check.same("addStep when called off", x.addStep(-1, 1), 0);
        x.setWind(0);
        x.begin(-10, 0, 100);
        x.pass(10);
        Check.sign("flies", x.state(), 'f');
        Check.refuses(x, STATE, "addStep in the flight", () -> x.addStep(-1, 1));
        x.pass(60);
        Check.refuses(x, STATE, "addStep beyond the range", () -> x.addStep(-1, 1));
        LaunchRange y = Ranges.destroyed();
        Check.refuses(y, STATE, "addStep when destroyed", () -> y.addStep(-1, 1));
    }

    private static void setAfter() {
        Check.promise(7);
        LaunchRange x = new LaunchRange();
        for (int i = 0; i < 16; i++) {
            x.addStep(-10, 1);
        }
        Check.same("behind one", x.setAfter(3, 0), 1);
        Check.same("behind the same one again", x.setAfter(3, 0), 1);
        Check.same("behind two", x.setAfter(3, 2), 2);
        Check.same("another one", x.setAfter(2, 1), 1);
        for (int i = 0; i < 15; i++) {
            Check.same("the last behind all", x.setAfter(15, i), i + 1);
        }
        int[][] none = {{-1, 0}, {16, 0}, {3, -1}, {3, 16}, {16, 16}, {-2, -3}, {Integer.MAX_VALUE, 0}};
        for (int[] w : none) {
            Check.refuses(x, INDEX, "setAfter(" + w[0] + ", " + w[1] + ")", () -> x.setAfter(w[0], w[1]));
        }
        Check.refuses(x, ARGUMENT, "setAfter itself", () -> x.setAfter(3, 3));
        Check.refuses(x, ARGUMENT, "setAfter a greater one", () -> x.setAfter(3, 4));
        x.begin(-10, 0, 100);
        Check.refuses(x, STATE, "setAfter while counting", () -> x.setAfter(5, 1));
        Check.refuses(x, ARGUMENT, "setAfter itself while counting", () -> x.setAfter(5, 5));
        Check.refuses(x, INDEX, "setAfter none while counting", () -> x.setAfter(16, 5));
        x.scrub();
        Check.same("setAfter when called off", x.setAfter(5, 1), 1);
        x.begin(-10, 0, 100);
        x.pass(10);
        Check.refuses(x, STATE, "setAfter in the flight", () -> x.setAfter(5, 2));
    }

    private static void stepState() {
        Check.promise(8);
        LaunchRange x = new LaunchRange();
        Check.refuses(x, INDEX, "stepState(0) without one", () -> x.stepState(0));
        x.addStep(-9, 2);
        Check.sign("at first", x.stepState(0), '-');
        x.pass(3);
        Check.sign("without a count", x.stepState(0), '-');
        x.begin(-10, 0, 100);
        x.pass(1);
        Check.sign("in the second of the count -10", x.stepState(0), '-');
        x.pass(1);
        Check.sign("in the second of the count -9", x.stepState(0), 'r');
        x.pass(1);
        Check.sign("one second later", x.stepState(0), 'r');
        x.pass(1);
        Check.sign("two seconds later", x.stepState(0), 'e');
        Check.refuses(x, INDEX, "stepState(-1)", () -> x.stepState(-1));
        Check.refuses(x, INDEX, "stepState(1)", () -> x.stepState(1));
        Check.refuses(x, INDEX, "stepState(MIN)", () -> x.stepState(Integer.MIN_VALUE));
    }

    private static void stepsRunInOrder() {
        LaunchRange x = new LaunchRange();
        x.addStep(-600, 2);
        x.addStep(-600, 1);
        x.addStep(-600, 1);
        x.addStep(-8, 1);
        x.setAfter(1, 0);
        x.setAfter(2, 0);
        x.setAfter(2, 1);
        x.addRule('w', 0, 0, 10, 0);
        x.setWind(11);
        x.begin(-10, 0, 100);
        String[] due = {"r---", "r---", "er--", "eer-", "eee-", "eee-"};
        for (String d : due) {
            x.pass(1);
            Check.text("held, the steps", Look.stepStates(x), d);
        }
        Check.same("held all the time", x.count(), -10);
        x.setWind(0);
        x.pass(2);
        Check.text("at the count -8, ahead of its second", Look.stepStates(x), "eee-");
        x.pass(1);
        Check.text("behind the second of the count -8", Look.stepStates(x), "eeer");
    }

    private static void stepsStandAfterCallOff() {
        LaunchRange x = new LaunchRange();
        x.addStep(-10, 1);
        x.addStep(-10, 9);
        x.addStep(-5, 1);
        x.begin(-10, 0, 100);
        x.pass(3);
        x.scrub();
        Check.text("called off, the steps", Look.stepStates(x), "er-");
        x.pass(20);
        Check.text("called off for long, the steps", Look.stepStates(x), "er-");
        x.begin(-10, 0, 100);
        Check.text("begun again, the steps", Look.stepStates(x), "---");
        x.pass(9);
        Check.text("nearly done again, the steps", Look.stepStates(x), "ere");
        x.pass(1);
        Check.text("done again, the steps", Look.stepStates(x), "eee");
        LaunchRange y = new LaunchRange();
        y.addStep(-1, 2);
        y.begin(-10, 0, 100);
        y.pass(20);
        Check.text("no step goes on in the flight", Look.stepStates(y), "r");
    }

    private static void addMark() {
        Check.promise(9);
        LaunchRange x = new LaunchRange();
        x.addStep(-10, 1);
        x.addStep(-10, 1);
        int[][] wrong = {{-601, 0, 0}, {0, 0, 0}, {-1, -1, 0}, {-1, 301, 0}, {Integer.MAX_VALUE, 0, 0},
            {0, 0, 4}, {-1, 301, 4}};
        for (int[] w : wrong) {
            Check.refuses(x, ARGUMENT, "addMark(" + w[0] + ", " + w[1] + ", " + w[2] + ")",
                    () -> x.addMark(w[0], w[1], w[2]));
        }
        for (int w : new int[] {4, 5, 7, 8, 1 << 15, 1 << 16, 1 << 30, -1, Integer.MIN_VALUE}) {
            Check.refuses(x, UNSUPPORTED, "addMark of the steps " + w, () -> x.addMark(-1, 0, w));
        }
        Check.same("a mark", x.addMark(-600, 0, 3), 1);
        Check.refuses(x, ARGUMENT, "a mark of the same count", () -> x.addMark(-600, 5, 0));
        Check.refuses(x, ARGUMENT, "a mark of the same count, no such step", () -> x.addMark(-600, 5, 4));
        Check.same("two marks", x.addMark(-1, 300, 0), 2);
        Check.same("three marks", x.addMark(-7, 0, 2), 3);
        Check.same("four marks", x.addMark(-6, 0, 1), 4);
        Check.same("five marks", x.addMark(-9, 0, 0), 5);
        Check.same("six marks", x.addMark(-8, 0, 0), 6);
        Check.refuses(x, STATE, "a mark too many", () -> x.addMark(-5, 0, 0));
        Check.refuses(x, UNSUPPORTED, "a mark too many, no such step", () -> x.addMark(-5, 0, 4));
        Check.refuses(x, ARGUMENT, "a mark too many of the same count", () -> x.addMark(-8, 0, 0));
        LaunchRange y = new LaunchRange();
        for (int i = 0; i < 16; i++) {
            y.addStep(-10, 1);
        }
        Check.same("a mark of all 16 steps", y.addMark(-3, 0, 65535), 1);
        Check.refuses(y, UNSUPPORTED, "a mark of the 17th step", () -> y.addMark(-2, 0, 65536));
    }

    private static void addMarkWhileNotAllowed() {
        LaunchRange x = new LaunchRange();
        x.begin(-10, 0, 100);
        Check.refuses(x, STATE, "addMark while counting", () -> x.addMark(-1, 0, 0));
        Check.refuses(x, UNSUPPORTED, "addMark while counting, no such step", () -> x.addMark(-1, 0, 1));
        x.scrub();
        Check.same("addMark when called off", x.addMark(-1, 0, 0), 1);
        x.begin(-10, 0, 100);
        x.pass(10);
        Check.refuses(x, STATE, "addMark in the flight", () -> x.addMark(-2, 0, 0));
    }

    private static void marksHold() {
        LaunchRange x = new LaunchRange();
        x.addStep(-8, 3);
        x.addMark(-8, 0, 1);
        x.addMark(-6, 2, 1);
        x.addMark(-4, 0, 1);
        x.begin(-10, 0, 100);
        x.pass(2);
        Check.same("on the way to the mark", x.count(), -8);
        x.pass(3);
        Check.same("held for the step", x.count(), -8);
        Check.sign("held for the mark", x.cause(), 'm');
        x.pass(1);
        Check.same("the step is done", x.count(), -7);
        x.pass(1);
        Check.same("at the next mark", x.count(), -6);
        Check.sign("not held yet", x.state(), 'c');
        x.pass(2);
        Check.same("held for its 2 seconds", x.count(), -6);
        Check.sign("held", x.state(), 'h');
        x.pass(1);
        Check.same("goes on", x.count(), -5);
        x.pass(2);
        Check.same("a mark of 0 seconds does not hold", x.count(), -3);
        Check.same("held so long", x.holds(), 5);
        Check.text("the log", Look.log(x), "0C;2H;5G;7H;9G;");
    }

    private static void marksCountHoldsForOtherCauses() {
        LaunchRange x = new LaunchRange();
        x.addRule('w', 0, 0, 10, 0);
        x.addMark(-10, 3, 0);
        x.addMark(-9, 2, 0);
        x.begin(-10, 0, 100);
        x.setWind(11);
        x.pass(2);
        Check.sign("held for the rule first", x.cause(), 'w');
        x.setWind(0);
        x.pass(1);
        Check.sign("held for the mark for the one second left", x.cause(), 'm');
        x.pass(1);
        Check.same("its 3 seconds are over", x.count(), -9);
        x.pass(2);
        Check.same("the holds of the count ahead do not count here", x.count(), -9);
        x.setWind(11);
        x.pass(4);
        Check.sign("held longer for the rule", x.cause(), 'w');
        x.setWind(0);
        x.pass(1);
        Check.same("goes on at once", x.count(), -8);
    }

    private static void marksInAnyOrder() {
        LaunchRange x = new LaunchRange();
        x.addStep(-10, 1);
        x.addStep(-7, 2);
        x.addMark(-7, 0, 2);
        x.addMark(-9, 3, 1);
        x.addMark(-8, 1, 0);
        x.begin(-10, 0, 100);
        int[] due = {-9, -9, -9, -9, -8, -8, -7, -7, -7, -6};
        for (int i = 0; i < due.length; i++) {
            x.pass(1);
            Check.same("each mark with its own seconds and steps, second " + i, x.count(), due[i]);
        }
    }
}

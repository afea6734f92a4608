/** Promises 22 to 26. */
final class CountTest {
    private static final Class<IllegalArgumentException> ARGUMENT = IllegalArgumentException.class;
    private static final Class<IllegalStateException> STATE = IllegalStateException.class;
    private static final Class<IndexOutOfBoundsException> INDEX = IndexOutOfBoundsException.class;
    private static final Class<UnsupportedOperationException> UNSUPPORTED = UnsupportedOperationException.class;

    private CountTest() {
    }

    static void run() {
        begin();
        beginWhileNotAllowed();
        beginAnew();
        window();
        windowHolds();
        recycle();
        recycleSteps();
        recycleRefuses();
        recycleAndMark();
        scrub();
        pass();
        passKeepsTheOrder();
        calledOffForTheWindow();
        calledOffForTheFirstHold();
        track();
        flightOffWay();
        flightRadars();
        flightEnds();
    }

    private static void begin() {
        Check.promise(22);
        LaunchRange x = new LaunchRange();
        int[][] wrong = {{-601, 0, 0}, {-9, 0, 0}, {0, 0, 0}, {10, 0, 0}, {-10, -1, 0}, {-10, 5, 4}, {-10, 0, -1},
            {-10, 0, 5001}, {-10, 5001, 5001}, {Integer.MIN_VALUE, 0, 0}, {-10, Integer.MIN_VALUE, 0},
            {-10, 0, Integer.MAX_VALUE}};
        for (int[] w : wrong) {
            Check.refuses(x, ARGUMENT, "begin(" + w[0] + ", " + w[1] + ", " + w[2] + ")",
                    () -> x.begin(w[0], w[1], w[2]));
        }
        x.pass(7);
        Check.same("begin in the second 7", x.begin(-600, 0, 0), 607);
        Check.sign("is counting", x.state(), 'c');
        Check.same("at its count", x.count(), -600);
        Check.same("with no hold", x.holds(), 0);
        Check.text("the log", Look.log(x), "7C;");
        x.scrub();
        Check.same("begin with a late window", x.begin(-10, 5000, 5000), 17);
        x.pass(600);
        Check.same("waits for the window", x.count(), -1);
    }

    private static void beginWhileNotAllowed() {
        LaunchRange x = Ranges.held();
        Check.refuses(x, STATE, "begin while held", () -> x.begin(-10, 0, 100));
        Check.refuses(x, ARGUMENT, "begin(-9) while held", () -> x.begin(-9, 0, 100));
        x.setWind(0);
        x.pass(1);
        Check.refuses(x, STATE, "begin while counting", () -> x.begin(-10, 0, 100));
        LaunchRange f = Ranges.flying();
        Check.refuses(f, STATE, "begin in the flight", () -> f.begin(-10, 0, 100));
        LaunchRange d = Ranges.destroyed();
        Check.refuses(d, STATE, "begin when destroyed", () -> d.begin(-10, 0, 100));
        LaunchRange b = Ranges.beyond();
        Check.refuses(b, STATE, "begin beyond the range", () -> b.begin(-10, 0, 100));
        LaunchRange s = Ranges.calledOff();
        Check.same("begin when called off", s.begin(-20, 0, 100), 21);
    }

    private static void beginAnew() {
        LaunchRange x = Ranges.held();
        x.addRule('b', 0, 0, 0, 0);
        x.pass(4);
        Check.same("held for 5 seconds", x.holds(), 5);
        x.scrub();
        x.setWind(0);
        x.begin(-10, 0, 10);
        Check.same("the new count was not held", x.holds(), 0);
        x.boat(0, 1, 0);
        x.pass(1);
        Check.sign("the cause of the new count alone", x.cause(), 'b');
        Check.sign("called off", x.state(), 's');
        LaunchRange y = new LaunchRange();
        y.addMark(-10, 3, 0);
        for (int i = 0; i < 12; i++) {
            y.addRule('w', 0, 0, 10, 0);
        }
        y.begin(-10, 0, 100);
        y.pass(2);
        y.scrub();
        y.begin(-10, 0, 100);
        y.pass(3);
        Check.same("the new count is held for 3 seconds", y.count(), -10);
        y.pass(1);
        Check.same("and goes on", y.count(), -9);
    }

    private static void window() {
        LaunchRange x = new LaunchRange();
        x.begin(-10, 0, 10);
        x.pass(9);
        Check.sign("one second ahead", x.state(), 'c');
        x.pass(1);
        Check.sign("leaves in the last second of the window", x.state(), 'f');
        Check.text("the log", Look.log(x), "0C;9F;");
        LaunchRange y = new LaunchRange();
        y.begin(-10, 10, 10);
        y.pass(10);
        Check.sign("leaves in the only second of the window", y.state(), 'f');
        Check.same("without a hold", y.holds(), 0);
        LaunchRange z = new LaunchRange();
        z.begin(-10, 0, 9);
        Check.sign("begun too late", z.state(), 'c');
        z.pass(1);
        Check.sign("begun too late, the window is the cause", z.cause(), 'o');
        Check.text("begun too late, the log", Look.log(z), "0C;0S;");
        Check.same("begun too late, the count", z.count(), -9);
    }

    private static void windowHolds() {
        LaunchRange x = new LaunchRange();
        x.begin(-10, 13, 20);
        x.pass(9);
        Check.same("at the count -1", x.count(), -1);
        Check.sign("not held yet", x.state(), 'c');
        x.pass(1);
        Check.sign("held for the window", x.cause(), 'o');
        x.pass(2);
        Check.same("held in 3 seconds", x.holds(), 3);
        Check.same("at -1", x.count(), -1);
        x.pass(1);
        Check.sign("leaves", x.state(), 'f');
        Check.same("second", x.second(), 13);
        Check.text("the log", Look.log(x), "0C;9H;12G;12F;");
        LaunchRange y = new LaunchRange();
        y.addMark(-1, 1, 0);
        y.addRule('w', 0, 0, 10, 0);
        y.begin(-10, 13, 20);
        y.pass(10);
        Check.sign("the mark is ahead of the window", y.cause(), 'm');
        y.setWind(11);
        y.pass(1);
        Check.sign("a rule is ahead of the window", y.cause(), 'w');
        y.setWind(10);
        y.pass(1);
        Check.sign("then the window", y.cause(), 'o');
        y.pass(1);
        Check.same("left", y.count(), 0);
    }

    private static void recycle() {
        Check.promise(23);
        LaunchRange x = new LaunchRange();
        x.addMark(-2, 0, 0);
        x.addMark(-8, 0, 0);
        x.addMark(-5, 0, 0);
        x.addRule('w', 0, 0, 10, 0);
        x.begin(-10, 0, 5000);
        x.pass(9);
        Check.same("at -1", x.count(), -1);
        x.setWind(11);
        x.pass(2);
        Check.sign("held", x.state(), 'h');
        Check.same("recycle to the last mark", x.recycle(2), 0);
        Check.same("set back to -2", x.count(), -2);
        Check.sign("counting", x.state(), 'c');
        Check.same("holds go on", x.holds(), 2);
        Check.same("recycle to the middle mark", x.recycle(1), 0);
        Check.same("set back to -5", x.count(), -5);
        Check.same("recycle to the first mark", x.recycle(0), 0);
        Check.same("set back to -8", x.count(), -8);
        x.setWind(0);
        x.pass(8);
        Check.same("counted down", x.count(), 0);
        Check.text("the log", Look.log(x), "0C;9H;11R;11R;11R;18F;");
        LaunchRange y = Ranges.held();
        y.scrub();
        y.addMark(-600, 0, 0);
        y.begin(-10, 0, 5000);
        y.recycle(0);
        Check.same("set back behind the beginning", y.count(), -600);
        y.pass(1);
        Check.text("held again, it is logged", Look.log(y), "0C;0H;1S;1C;1R;1H;");
    }

    private static void recycleSteps() {
        LaunchRange x = new LaunchRange();
        x.addMark(-6, 0, 0);
        x.addStep(-9, 1);
        x.addStep(-7, 20);
        x.addStep(-6, 1);
        x.addStep(-5, 20);
        x.addStep(-1, 1);
        x.begin(-10, 0, 5000);
        x.pass(7);
        Check.same("at -3", x.count(), -3);
        Check.same("two of the steps from -6 on had begun", x.recycle(0), 2);
        Check.sign("done ahead of the mark", x.stepState(0), 'e');
        Check.sign("running ahead of the mark", x.stepState(1), 'r');
        Check.sign("done at the mark", x.stepState(2), '-');
        Check.sign("running behind the mark", x.stepState(3), '-');
        Check.sign("not begun", x.stepState(4), '-');
        x.pass(2);
        Check.sign("done again", x.stepState(2), 'e');
        Check.sign("running again", x.stepState(3), 'r');
        LaunchRange y = new LaunchRange();
        y.addMark(-6, 0, 0);
        y.addStep(-6, 3);
        y.begin(-10, 0, 5000);
        y.pass(6);
        y.recycle(0);
        y.pass(3);
        Check.sign("a step done again takes all its seconds", y.stepState(0), 'r');
        y.pass(1);
        Check.sign("and is done then", y.stepState(0), 'e');
    }

    private static void recycleRefuses() {
        LaunchRange x = new LaunchRange();
        Check.refuses(x, INDEX, "recycle(0) without marks", () -> x.recycle(0));
        x.addMark(-8, 0, 0);
        Check.refuses(x, INDEX, "recycle(-1)", () -> x.recycle(-1));
        Check.refuses(x, INDEX, "recycle(1)", () -> x.recycle(1));
        Check.refuses(x, INDEX, "recycle(MIN)", () -> x.recycle(Integer.MIN_VALUE));
        Check.refuses(x, UNSUPPORTED, "recycle without a count", () -> x.recycle(0));
        x.begin(-10, 0, 5000);
        x.pass(1);
        Check.refuses(x, UNSUPPORTED, "recycle ahead of the mark", () -> x.recycle(0));
        x.pass(1);
        Check.refuses(x, UNSUPPORTED, "recycle at the mark", () -> x.recycle(0));
        x.pass(1);
        Check.same("recycle one behind the mark", x.recycle(0), 0);
        x.pass(3);
        x.scrub();
        Check.refuses(x, UNSUPPORTED, "recycle when called off", () -> x.recycle(0));
        x.begin(-10, 0, 5000);
        x.pass(12);
        Check.refuses(x, UNSUPPORTED, "recycle in the flight", () -> x.recycle(0));
    }

    private static void recycleAndMark() {
        LaunchRange x = new LaunchRange();
        x.addMark(-8, 2, 0);
        x.begin(-10, 0, 5000);
        x.pass(5);
        Check.same("behind the mark", x.count(), -7);
        x.recycle(0);
        x.pass(2);
        Check.same("the mark holds again for its seconds", x.count(), -8);
        Check.sign("for the mark", x.cause(), 'm');
        x.pass(1);
        Check.same("then goes on", x.count(), -7);
        Check.same("held twice", x.holds(), 4);
        LaunchRange y = new LaunchRange();
        y.addRule('w', 0, 0, 10, 0);
        y.addMark(-8, 2, 0);
        y.begin(-10, 0, 5000);
        y.pass(5);
        y.setWind(11);
        y.pass(7);
        y.setWind(0);
        y.recycle(0);
        y.pass(2);
        Check.same("holds behind the mark do not count at it", y.count(), -8);
        y.pass(1);
        Check.same("then goes on", y.count(), -7);
    }

    private static void scrub() {
        Check.promise(24);
        LaunchRange x = new LaunchRange();
        Check.is("scrub without a count", x.scrub(), false);
        Check.text("nothing is logged", Look.log(x), "");
        x.pass(3);
        x.begin(-10, 0, 5000);
        x.pass(2);
        Check.is("scrub while counting", x.scrub(), true);
        Check.sign("called off", x.state(), 's');
        Check.sign("the cause of a call", x.cause(), 'c');
        Check.text("the log", Look.log(x), "3C;5S;");
        Check.is("scrub again", x.scrub(), false);
        x.pass(9);
        Check.same("the count stands", x.count(), -8);
        Check.text("the log stands", Look.log(x), "3C;5S;");
        LaunchRange y = Ranges.held();
        Check.is("scrub while held", y.scrub(), true);
        Check.sign("the cause of a call, though held", y.cause(), 'c');
        Check.refuses(y, java.util.NoSuchElementException.class, "no rule", y::causeRule);
        Check.same("held so long", y.holds(), 1);
        Check.is("scrub in the flight", Ranges.flying().scrub(), false);
        Check.is("scrub when destroyed", Ranges.destroyed().scrub(), false);
        Check.is("scrub beyond the range", Ranges.beyond().scrub(), false);
    }

    private static void pass() {
        Check.promise(25);
        LaunchRange x = new LaunchRange();
        Check.same("pass(1)", x.pass(1), 1);
        Check.same("pass(600)", x.pass(600), 601);
        for (int w : new int[] {0, -1, 601, Integer.MIN_VALUE, Integer.MAX_VALUE}) {
            Check.refuses(x, ARGUMENT, "pass(" + w + ")", () -> x.pass(w));
        }
        for (int i = 0; i < 165; i++) {
            x.pass(600);
        }
        Check.same("pass(398)", x.pass(398), 99999);
        Check.refuses(x, STATE, "pass(2) in the second 99999", () -> x.pass(2));
        Check.refuses(x, ARGUMENT, "pass(601) in the second 99999", () -> x.pass(601));
        Check.same("to the last second", x.pass(1), 100000);
        Check.refuses(x, STATE, "pass(1) in the last second", () -> x.pass(1));
        Check.same("begin in the last second", x.begin(-10, 0, 10), 100010);
        Check.text("the log", Look.log(x), "100000C;");
    }

    private static void passKeepsTheOrder() {
        LaunchRange x = new LaunchRange();
        x.setTank(0, 100, 10, 0);
        x.setValve(0, true);
        x.addRule('t', 0, 10, 100, 1);
        x.addStep(-10, 1);
        x.addMark(-9, 0, 1);
        x.begin(-10, 0, 5000);
        x.pass(1);
        Check.same("tanks are ahead of rules, rules ahead of the count", x.count(), -9);
        Check.sign("steps are ahead of the count", x.stepState(0), 'r');
        x.pass(1);
        Check.same("steps are done ahead of the mark", x.count(), -8);
        Check.same("never held", x.holds(), 0);
        LaunchRange y = Ranges.held();
        y.addRule('b', 0, 1, 1, 0);
        y.addRule('l', 0, 1, 1, 0);
        y.pass(1);
        Check.same("the lowest rule first", y.causeRule(), 0);
        y.setWind(0);
        y.pass(1);
        Check.sign("then the next one", y.cause(), 'b');
        Check.same("which is the rule 1", y.causeRule(), 1);
        y.boat(0, 1, 10);
        y.strike(0);
        y.pass(1);
        Check.same("still the rule 1", y.causeRule(), 1);
        Check.text("a new cause is no change of the state", Look.log(y), "0C;0H;");
    }

    private static void calledOffForTheWindow() {
        LaunchRange x = new LaunchRange();
        x.addMark(-5, 0, 0);
        x.begin(-10, 0, 10);
        x.pass(6);
        x.recycle(0);
        Check.sign("set back too late", x.state(), 'c');
        x.pass(1);
        Check.sign("called off", x.state(), 's');
        Check.sign("for the window, as it was never held", x.cause(), 'o');
        Check.text("the log", Look.log(x), "0C;6R;6S;");
        Check.same("the count went further", x.count(), -4);
        LaunchRange w = Ranges.calledOff();
        w.setWind(0);
        w.begin(-10, 0, 9);
        w.pass(1);
        Check.sign("a count that was never held, behind one that was", w.cause(), 'o');
        Check.refuses(w, java.util.NoSuchElementException.class, "no rule", w::causeRule);
        LaunchRange y = new LaunchRange();
        y.begin(-10, 15, 15);
        y.pass(15);
        Check.sign("leaves in the one second", y.state(), 'f');
        LaunchRange z = new LaunchRange();
        z.begin(-600, 0, 5000);
        z.pass(600);
        Check.sign("the longest count leaves", z.state(), 'f');
        Check.same("second", z.second(), 600);
    }

    private static void calledOffForTheFirstHold() {
        LaunchRange x = new LaunchRange();
        x.addRule('w', 0, 0, 10, 0);
        x.addRule('b', 0, 0, 10, 0);
        x.addMark(-9, 0, 0);
        x.begin(-10, 0, 13);
        x.boat(0, 1, 0);
        x.pass(1);
        x.boat(0, 0, 0);
        x.pass(3);
        Check.same("went on", x.count(), -7);
        x.recycle(0);
        x.setWind(11);
        x.pass(1);
        Check.sign("called off for what held it first, ahead of being set back", x.cause(), 'b');
        Check.same("which is the rule 1", x.causeRule(), 1);
        Check.text("held and called off", Look.log(x), "0C;0H;1G;4R;4H;4S;");
        Check.same("held so long", x.holds(), 2);
        LaunchRange y = new LaunchRange();
        y.addRule('w', 0, 0, 10, 0);
        y.begin(-10, 0, 11);
        y.setWind(11);
        y.pass(1);
        Check.sign("may be held for one second", y.state(), 'h');
        y.pass(1);
        Check.sign("but not for two", y.state(), 's');
        Check.sign("for the wind", y.cause(), 'w');
        Check.same("held so long", y.holds(), 2);
        Check.text("the log", Look.log(y), "0C;0H;1S;");
        LaunchRange z = new LaunchRange();
        z.addMark(-10, 300, 0);
        z.begin(-10, 0, 10);
        z.pass(1);
        Check.sign("for the mark", z.cause(), 'm');
        Check.text("held and called off in one second", Look.log(z), "0C;0H;0S;");
    }

    private static void track() {
        Check.promise(26);
        LaunchRange x = new LaunchRange();
        Check.same("track at first", x.track(0, 999), 0);
        Check.same("the other radar", x.track(1, -999), 0);
        Check.same("track again", x.track(0, 0), 999);
        Check.same("the other one again", x.track(1, 0), -999);
        int[][] wrong = {{-1, 0}, {2, 0}, {0, 1000}, {0, -1000}, {Integer.MIN_VALUE, 0}, {1, Integer.MIN_VALUE}};
        for (int[] w : wrong) {
            Check.refuses(x, ARGUMENT, "track(" + w[0] + ", " + w[1] + ")", () -> x.track(w[0], w[1]));
        }
    }

    private static void flightOffWay() {
        LaunchRange x = new LaunchRange();
        x.track(0, 101);
        x.track(1, -101);
        x.begin(-10, 0, 5000);
        x.pass(10);
        Check.sign("the second in which it leaves is none of the flight", x.state(), 'f');
        x.pass(1);
        Check.sign("destroyed in the second 1", x.state(), 'x');
        Check.sign("off its way, on whichever side", x.cause(), 'd');
        Check.text("the log", Look.log(x), "0C;9F;10X;");
        LaunchRange y = Ranges.flying();
        y.track(0, 100);
        y.track(1, 101);
        y.pass(10);
        Check.sign("only one sees it off", y.state(), 'f');
        y.track(0, -101);
        y.track(1, 100);
        y.pass(1);
        Check.sign("only the other one", y.state(), 'f');
    }

    private static void flightRadars() {
        LaunchRange x = Ranges.flying();
        x.track(0, -10);
        x.track(1, 10);
        x.pass(5);
        Check.sign("a difference of 20", x.state(), 'f');
        x.track(1, 11);
        x.pass(2);
        x.track(1, 10);
        x.pass(1);
        x.track(1, 11);
        x.pass(2);
        Check.sign("not one behind the other", x.state(), 'f');
        x.track(1, -31);
        x.pass(1);
        Check.sign("3 seconds, one behind the other", x.state(), 'x');
        Check.sign("radars that disagree", x.cause(), 'r');
        Check.same("in the second 11 of the flight", x.count(), 11);
        LaunchRange y = new LaunchRange();
        y.track(0, 50);
        y.begin(-10, 0, 5000);
        y.pass(12);
        Check.sign("seconds ahead of the flight do not count", y.state(), 'f');
        y.pass(1);
        Check.sign("the third one", y.state(), 'x');
        LaunchRange z = Ranges.flying();
        z.track(0, 150);
        z.pass(2);
        z.track(1, 120);
        z.pass(1);
        Check.sign("off its way is ahead of radars", z.cause(), 'd');
    }

    private static void flightEnds() {
        LaunchRange x = Ranges.flying();
        x.pass(59);
        Check.sign("in its second 59", x.state(), 'f');
        x.pass(1);
        Check.sign("in its second 60", x.state(), 'o');
        Check.text("the log", Look.log(x), "0C;9F;69O;");
        x.track(0, 500);
        x.track(1, 400);
        x.pass(10);
        Check.sign("beyond the range for good", x.state(), 'o');
        LaunchRange y = Ranges.flying();
        y.pass(57);
        y.track(0, 50);
        y.pass(3);
        Check.sign("destroyed in its second 60", y.state(), 'x');
        LaunchRange z = Ranges.destroyed();
        z.pass(100);
        Check.sign("destroyed for good", z.state(), 'x');
        Check.text("the log of a destroyed one", Look.log(z), "0C;9F;10X;");
    }
}

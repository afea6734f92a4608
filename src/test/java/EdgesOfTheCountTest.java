/** The edges that promises 22 to 26 name, a test each. */
final class EdgesOfTheCountTest {
    private static final Class<IllegalArgumentException> ARGUMENT = IllegalArgumentException.class;
    private static final Class<IllegalStateException> STATE = IllegalStateException.class;
    private static final Class<IndexOutOfBoundsException> INDEX = IndexOutOfBoundsException.class;
    private static final Class<UnsupportedOperationException> UNSUPPORTED = UnsupportedOperationException.class;
    private static final int LAST_SECOND = 100000;

    private EdgesOfTheCountTest() {
    }

    static void run() {
        begin();
        recycle();
        scrub();
        pass();
        track();
    }

    private static LaunchRange at(int second) {
        LaunchRange x = new LaunchRange();
        while (x.second() < second) {
            x.pass(Math.min(600, second - x.second()));
        }
        return x;
    }

    private static void begin() {
        Edges.test(22, "`count`: the count, -600 to -10", () -> Edges.bounds("the count", -600, -10, ARGUMENT,
                LaunchRange::new, (x, n) -> x.begin(n, 0, 5000)));
        Edges.test(22, "`open`: how many seconds from now the window opens, 0 to 5000", () -> Edges.bounds("open", 0,
                5000, ARGUMENT, LaunchRange::new, (x, n) -> x.begin(-10, n, 5000)));
        Edges.test(22, "`shut`: how many seconds from now it shuts, not ahead of that, to 5000", () -> {
            for (int open : new int[] {0, 1, 10, 4998}) {
                Edges.bounds("shut", open, 5000, ARGUMENT, LaunchRange::new, (x, n) -> x.begin(-10, open, n));
            }
            LaunchRange x = new LaunchRange();
            Check.refuses(x, ARGUMENT, "one second ahead", () -> x.begin(-10, 5000, 4999));
            Check.same("the last second alone", x.begin(-10, 5000, 5000), 10);
        });
        Edges.test(22, "Returns the second at which it would be 0, without a hold.", () -> {
            int[][] cases = {{0, -10, 10}, {0, -600, 600}, {599, -10, 609}, {LAST_SECOND, -10, LAST_SECOND + 10},
                {LAST_SECOND, -600, LAST_SECOND + 600}};
            for (int[] c : cases) {
                LaunchRange x = at(c[0]);
                Check.same("in the second " + c[0], x.begin(c[1], 0, 0), c[2]);
            }
            LaunchRange y = new LaunchRange();
            y.addMark(-10, 300, 0);
            Check.same("though it will be held", y.begin(-10, 0, 5000), 10);
        });
        Edges.test(22, "if a number is out of range", () -> {
            LaunchRange x = Ranges.calledOff();
            Check.refuses(x, ARGUMENT, "all wrong", () -> x.begin(-9, -1, 5001));
            Check.refuses(x, ARGUMENT, "wrap around", () -> x.begin(-10, Integer.MIN_VALUE, Integer.MAX_VALUE));
            Check.sign("called off still", x.state(), 's');
        });
        Edges.test(22, "if a count goes on, or the rocket has left", () -> {
            LaunchRange counting = new LaunchRange();
            counting.begin(-600, 0, 5000);
            LaunchRange[] all = {counting, Ranges.held(), Ranges.flying(), Ranges.destroyed(), Ranges.beyond()};
            for (LaunchRange x : all) {
                Check.refuses(x, STATE, "in the state " + x.state(), () -> x.begin(-10, 0, 5000));
            }
            LaunchRange off = Ranges.calledOff();
            Check.same("called off by hand", off.begin(-10, 0, 9), 11);
            off.pass(1);
            Check.sign("called off by itself", off.state(), 's');
            Check.same("begun for the third time", off.begin(-10, 0, 5000), 12);
        });
    }

    private static LaunchRange withMarks() {
        LaunchRange x = new LaunchRange();
        for (int i = 6; i >= 1; i--) {
            x.addMark(-i, 0, 0);
        }
        return x;
    }

    private static void recycle() {
        Edges.test(23, "Sets the count back to a mark, from which on it is counting",
                EdgesOfTheCountTest::setBackToAMark);
        Edges.test(23, "steps whose count to begin from is at least that of the mark are to be done again",
                EdgesOfTheCountTest::stepsToBeDoneAgain);
        Edges.test(23, "`mark`: the mark, from 0, in the order of counts", () -> {
            int[][] orders = {{-2, -4, -6}, {-6, -4, -2}, {-4, -6, -2}, {-4, -2, -6}, {-2, -6, -4}, {-6, -2, -4}};
            for (int[] order : orders) {
                LaunchRange x = new LaunchRange();
                for (int count : order) {
                    x.addMark(count, 0, 0);
                }
                x.begin(-10, 0, 5000);
                x.pass(9);
                for (int mark = 2; mark >= 0; mark--) {
                    x.recycle(mark);
                    Check.same("the mark " + mark, x.count(), -6 + 2 * mark);
                }
            }
        });
        Edges.test(23, "Returns how many steps these are, of those that had begun.", () -> {
            LaunchRange x = new LaunchRange();
            x.addMark(-8, 0, 0);
            for (int i = 0; i < 16; i++) {
                x.addStep(i < 14 ? -8 : -1, 1 + i);
            }
            x.begin(-10, 0, 5000);
            x.pass(3);
            Check.same("begun, none of them done", x.recycle(0), 14);
            Check.text("set back", Look.stepStates(x), "----------------");
            x.pass(7);
            Check.text("done and running", Look.stepStates(x), "eeeeeerrrrrrrr--");
            Check.same("done and running", x.recycle(0), 14);
            x.pass(8);
            Check.sign("left", x.state(), 'f');
        });
        Edges.test(23, "if there is no such mark", () -> {
            LaunchRange x = withMarks();
            LaunchRange none = new LaunchRange();
            none.begin(-10, 0, 5000);
            none.pass(5);
            x.begin(-10, 0, 5000);
            x.pass(9);
            for (int n : new int[] {-1, 6, 7, Integer.MIN_VALUE, Integer.MAX_VALUE}) {
                Check.refuses(x, INDEX, "the mark " + n + " of 6", () -> x.recycle(n));
                Check.refuses(none, INDEX, "the mark " + n + " of none", () -> none.recycle(n));
            }
            Check.refuses(none, INDEX, "the first one of none", () -> none.recycle(0));
            Check.same("the first one of 6", x.recycle(0), 0);
        });
        Edges.test(23, "if no count goes on, or it is not behind the mark", EdgesOfTheCountTest::refusedRecycles);
    }

    private static void setBackToAMark() {
        LaunchRange x = new LaunchRange();
        x.addMark(-600, 0, 0);
        x.addRule('w', 0, 0, 10, 0);
        x.begin(-10, 0, 5000);
        x.setWind(11);
        x.pass(1);
        x.recycle(0);
        Check.same("ahead of where it began", x.count(), -600);
        Check.sign("counting, though it was held", x.state(), 'c');
        Check.same("seconds held so far", x.holds(), 1);
        Check.same("no second went by", x.second(), 1);
        x.setWind(0);
        x.pass(600);
        Check.sign("leaves", x.state(), 'f');
        Check.same("the second", x.second(), 601);
        LaunchRange y = new LaunchRange();
        y.addMark(-2, 0, 0);
        y.begin(-10, 20, 5000);
        y.pass(15);
        Check.sign("held for the window", y.cause(), 'o');
        y.recycle(0);
        y.pass(1);
        Check.same("to -1 again", y.count(), -1);
        Check.sign("without a hold", y.state(), 'c');
        y.pass(1);
        Check.sign("then held again", y.state(), 'h');
        Check.text("the log", Look.log(y), "0C;9H;15R;16H;");
    }

    private static void stepsToBeDoneAgain() {
        LaunchRange x = new LaunchRange();
        x.addMark(-5, 0, 0);
        int[] from = {-600, -6, -5, -4, -1};
        for (int f : from) {
            x.addStep(f, 1);
            x.addStep(f, 300);
        }
        x.begin(-10, 0, 5000);
        x.pass(8);
        Check.text("ahead of it", Look.stepStates(x), "erererer--");
        Check.same("from -5 on", x.recycle(0), 4);
        Check.text("behind it", Look.stepStates(x), "erer------");
        x.pass(1);
        Check.text("the second of the mark's count", Look.stepStates(x), "ererrr----");
    }

    private static void refusedRecycles() {
        LaunchRange x = withMarks();
        Check.refuses(x, UNSUPPORTED, "without a count", () -> x.recycle(0));
        x.begin(-10, 0, 5000);
        Check.refuses(x, UNSUPPORTED, "far ahead of the mark", () -> x.recycle(0));
        x.pass(3);
        Check.same("one ahead of the first mark", x.count(), -7);
        Check.refuses(x, UNSUPPORTED, "one ahead of the mark", () -> x.recycle(0));
        x.pass(1);
        Check.refuses(x, UNSUPPORTED, "at the mark", () -> x.recycle(0));
        x.pass(1);
        Check.refuses(x, UNSUPPORTED, "at the next mark", () -> x.recycle(1));
        Check.same("one behind the mark", x.recycle(0), 0);
        x.scrub();
        Check.refuses(x, UNSUPPORTED, "called off", () -> x.recycle(0));
        x.begin(-10, 0, 5000);
        x.pass(10);
        Check.refuses(x, UNSUPPORTED, "flying", () -> x.recycle(0));
        x.pass(60);
        Check.refuses(x, UNSUPPORTED, "beyond the range", () -> x.recycle(0));
        LaunchRange y = withMarks();
        y.begin(-10, 0, 5000);
        y.track(0, 101);
        y.track(1, 101);
        y.pass(11);
        Check.refuses(y, UNSUPPORTED, "destroyed", () -> y.recycle(0));
    }

    private static void scrub() {
        Edges.test(24, "Returns whether one went on.", () -> {
            LaunchRange[] none = {new LaunchRange(), Ranges.calledOff(), Ranges.flying(), Ranges.destroyed(),
                Ranges.beyond()};
            for (LaunchRange x : none) {
                String before = Look.inside(x);
                Check.is("none in the state " + x.state(), x.scrub(), false);
                Check.text("nothing has changed", Look.inside(x), before);
            }
            LaunchRange counting = new LaunchRange();
            counting.begin(-10, 0, 0);
            Check.is("counting", counting.scrub(), true);
            Check.is("no more", counting.scrub(), false);
            LaunchRange held = Ranges.held();
            Check.is("held", held.scrub(), true);
            Check.text("called off in this second", Look.log(held), "0C;0H;1S;");
        });
    }

    private static void pass() {
        Edges.test(25, "`seconds`: how many seconds, 1 to 600", () -> Edges.bounds("the seconds", 1, 600, ARGUMENT,
                LaunchRange::new, (x, n) -> x.pass(n)));
        Edges.test(25, "Returns the second.", () -> {
            LaunchRange x = new LaunchRange();
            Check.same("the first", x.pass(1), 1);
            Check.same("many", x.pass(600), 601);
            Check.same("the last", at(LAST_SECOND - 600).pass(600), LAST_SECOND);
        });
        Edges.test(25, "if they are out of range", () -> {
            LaunchRange x = at(LAST_SECOND);
            Check.refuses(x, ARGUMENT, "none, in the last second", () -> x.pass(0));
            Check.refuses(x, ARGUMENT, "too many, in the last second", () -> x.pass(601));
            Check.refuses(x, ARGUMENT, "wrap around, in the last second", () -> x.pass(Integer.MAX_VALUE));
        });
        Edges.test(25, "if the second would be greater than 100000", () -> {
            int[][] cases = {{0, 1}, {1, 2}, {1, 600}, {599, 600}};
            for (int[] c : cases) {
                LaunchRange x = at(LAST_SECOND - c[0]);
                Check.refuses(x, STATE, c[1] + " seconds, " + c[0] + " ahead of the last one", () -> x.pass(c[1]));
                if (c[0] > 0) {
                    Check.same("just to the last one", x.pass(c[0]), LAST_SECOND);
                }
                Check.refuses(x, STATE, "one more", () -> x.pass(1));
            }
        });
    }

    private static void track() {
        Edges.test(26, "`radar`: the radar, 0 or 1", () -> Edges.bounds("the radar", 0, 1, ARGUMENT, LaunchRange::new,
                (x, n) -> x.track(n, 1)));
        Edges.test(26, "`off`: how far off its way it sees the rocket, -999 to 999", () -> Edges.bounds("off", -999,
                999, ARGUMENT, LaunchRange::new, (x, n) -> x.track(0, n)));
        Edges.test(26, "Returns what it saw before.", () -> {
            for (int radar = 0; radar < 2; radar++) {
                LaunchRange x = new LaunchRange();
                Check.same("at first", x.track(radar, -999), 0);
                Check.same("the least", x.track(radar, 999), -999);
                Check.same("the greatest", x.track(radar, 999), 999);
                Check.same("the same again", x.track(radar, 0), 999);
                Check.same("the other one", x.track(1 - radar, 0), 0);
                x.track(radar, 7);
                x.begin(-10, 0, 5000);
                x.pass(600);
                Check.same("from then on", x.track(radar, 0), 7);
            }
        });
        Edges.test(26, "if a number is out of range", () -> {
            LaunchRange x = new LaunchRange();
            x.track(1, 5);
            Check.refuses(x, ARGUMENT, "too far off", () -> x.track(1, 1000));
            Check.refuses(x, ARGUMENT, "too far off on the other side", () -> x.track(1, -1000));
            Check.refuses(x, ARGUMENT, "both wrong", () -> x.track(2, 1000));
            Check.same("as before", x.track(1, 0), 5);
        });
    }
}

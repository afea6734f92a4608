/** Promises 10 to 21. */
final class RulesAndPeopleTest {
    private static final Class<IllegalArgumentException> ARGUMENT = IllegalArgumentException.class;
    private static final Class<IllegalStateException> STATE = IllegalStateException.class;
    private static final Class<IndexOutOfBoundsException> INDEX = IndexOutOfBoundsException.class;
    private static final Class<UnsupportedOperationException> UNSUPPORTED = UnsupportedOperationException.class;

    private RulesAndPeopleTest() {
    }

    static void run() {
        sense();
        inhibit();
        setWind();
        strike();
        boat();
        addRule();
        mayWaive();
        waive();
        waiversByCount();
        waiversEnd();
        waiversByState();
        go();
        value();
        holdsFor();
        isMet();
    }

    private static void sense() {
        Check.promise(10);
        LaunchRange x = new LaunchRange();
        Check.same("10, 0, 0", x.sense(3, 10), 0);
        Check.same("10, 4, 0", x.sense(4, 4), 4);
        Check.same("10, 4, 7", x.sense(5, 7), 7);
        Check.same("10, 4, -3", x.sense(5, -3), 4);
        Check.same("10, 10, -3", x.sense(4, 10), 10);
        Check.same("another measure", x.sense(2, 9999), 0);
        Check.same("9999, 0, 9999", x.sense(0, 9999), 9999);
        Check.same("the third measure", x.sense(6, -9999), 0);
        Check.same("-9999, 0, -9999", x.sense(8, -9999), -9999);
        Check.same("-9999, -9999, -9999", x.sense(7, -9999), -9999);
        int[][] wrong = {{-1, 0}, {9, 0}, {0, 10000}, {0, -10000}, {Integer.MIN_VALUE, 0}, {0, Integer.MAX_VALUE}};
        for (int[] w : wrong) {
            Check.refuses(x, ARGUMENT, "sense(" + w[0] + ", " + w[1] + ")", () -> x.sense(w[0], w[1]));
        }
    }

    private static void inhibit() {
        Check.promise(11);
        LaunchRange x = new LaunchRange();
        x.sense(0, 9);
        x.sense(1, 4);
        x.sense(2, 100);
        Check.same("one left out", x.inhibit(2, true), 2);
        Check.same("half of 13, cut", x.sense(1, 4), 6);
        Check.same("half of -5, cut toward 0", x.sense(1, -14), -2);
        Check.same("half of -4", x.sense(1, -13), -2);
        Check.same("half of 1", x.sense(1, -8), 0);
        Check.same("half of -1", x.sense(1, -10), 0);
        Check.same("one left out again", x.inhibit(2, true), 2);
        Check.same("what one left out tells does not count", x.sense(2, -50), 0);
        Check.same("two left out", x.inhibit(0, true), 1);
        Check.same("one alone", x.sense(1, -7), -7);
        Check.refuses(x, UNSUPPORTED, "none would count", () -> x.inhibit(1, true));
        Check.same("left out again, as one counts", x.inhibit(0, true), 1);
        Check.same("the last one taken back", x.inhibit(1, false), 1);
        Check.same("another measure", x.inhibit(3, true), 2);
        Check.same("taken back", x.inhibit(2, false), 2);
        Check.same("its value stands", x.sense(1, -7), -28);
        Check.same("all taken back", x.inhibit(0, false), 3);
        Check.same("the middle again", x.sense(1, -7), -7);
        Check.same("the last sensor", x.inhibit(8, true), 2);
        for (int w : new int[] {-1, 9, Integer.MIN_VALUE, Integer.MAX_VALUE}) {
            Check.refuses(x, ARGUMENT, "inhibit(" + w + ", true)", () -> x.inhibit(w, true));
            Check.refuses(x, ARGUMENT, "inhibit(" + w + ", false)", () -> x.inhibit(w, false));
        }
        LaunchRange y = new LaunchRange();
        y.sense(1, 7);
        y.addRule('s', 0, 0, 0, 0);
        y.inhibit(0, true);
        Check.same("a rule sees the two that count", y.value(0), 3);
        y.inhibit(2, true);
        Check.same("a rule sees the one that counts", y.value(0), 7);
    }

    private static void setWind() {
        Check.promise(12);
        LaunchRange x = new LaunchRange();
        x.addRule('w', 0, 0, 50, 0);
        Check.same("the wind at first", x.setWind(200), 0);
        Check.same("the wind before", x.setWind(0), 200);
        Check.same("the wind before that", x.setWind(51), 0);
        for (int w : new int[] {-1, 201, Integer.MIN_VALUE, Integer.MAX_VALUE}) {
            Check.refuses(x, ARGUMENT, "setWind(" + w + ")", () -> x.setWind(w));
        }
        Check.same("the wind stands", x.value(0), 51);
    }

    private static void strike() {
        Check.promise(13);
        LaunchRange x = new LaunchRange();
        x.addRule('l', 0, 0, 2, 0);
        Check.same("a far one", x.strike(21), 0);
        Check.same("the farthest one", x.strike(99), 0);
        Check.same("the last near one", x.strike(20), 1);
        Check.same("the nearest one", x.strike(0), 2);
        x.pass(1);
        Check.same("one a second later", x.strike(5), 3);
        x.pass(598);
        Check.same("in the second 599", x.strike(99), 3);
        x.pass(1);
        Check.same("in the second 600", x.strike(99), 1);
        Check.same("one in the second 600", x.strike(1), 2);
        x.pass(1);
        Check.same("in the second 601", x.value(0), 1);
        x.pass(598);
        Check.same("in the second 1199", x.value(0), 1);
        x.pass(1);
        Check.same("in the second 1200", x.value(0), 0);
        for (int w : new int[] {-1, 100, Integer.MIN_VALUE, Integer.MAX_VALUE}) {
            Check.refuses(x, ARGUMENT, "strike(" + w + ")", () -> x.strike(w));
        }
        LaunchRange y = new LaunchRange();
        y.addRule('l', 0, 0, 0, 0);
        y.strike(20);
        y.pass(600);
        Check.same("the second 599 still sees that of the second 0", y.holdsFor(0), 0);
        y.pass(1);
        Check.same("the second 600 does not", y.holdsFor(0), 1);
        LaunchRange z = new LaunchRange();
        for (int i = 1; i <= 500; i++) {
            Check.same("many lightnings", z.strike(i % 21), i);
        }
    }

    private static void boat() {
        Check.promise(14);
        LaunchRange x = new LaunchRange();
        Check.same("a boat", x.boat(0, 3, 4), 180);
        Check.same("a boat on the way", x.boat(7, 50, 0), 5180);
        Check.same("a boat at 9", x.boat(1, 2, 9), 5200);
        Check.same("a boat at 10", x.boat(2, 50, 10), 5200);
        Check.same("a boat at 99", x.boat(3, 50, 99), 5200);
        Check.same("told anew", x.boat(7, 1, 0), 300);
        Check.same("without people", x.boat(0, 0, 0), 120);
        int[][] wrong = {{-1, 0, 0}, {8, 0, 0}, {0, -1, 0}, {0, 51, 0}, {0, 0, -1}, {0, 0, 100},
            {0, 0, Integer.MIN_VALUE}, {Integer.MAX_VALUE, 0, 0}};
        for (int[] w : wrong) {
            Check.refuses(x, ARGUMENT, "boat(" + w[0] + ", " + w[1] + ", " + w[2] + ")",
                    () -> x.boat(w[0], w[1], w[2]));
        }
    }

    private static void addRule() {
        Check.promise(15);
        LaunchRange x = new LaunchRange();
        addRuleRefuses(x);
        Check.same("a tank", x.addRule('t', 2, -5, 5, 300), 0);
        Check.same("a measure", x.addRule('s', 2, Integer.MIN_VALUE, Integer.MAX_VALUE, 0), 1);
        Check.same("the wind, about of no meaning", x.addRule('w', -1, 5, 5, 0), 2);
        Check.same("lightnings, about of no meaning", x.addRule('l', Integer.MAX_VALUE, 0, 0, 0), 3);
        Check.same("boats, about of no meaning", x.addRule('b', Integer.MIN_VALUE, 0, 0, 0), 4);
        Check.same("a console", x.addRule('g', 5, 1, 1, 0), 5);
        x.begin(-10, 0, 5000);
        Check.same("a rule while counting", x.addRule('g', 0, 0, 0, 0), 6);
        x.scrub();
        Check.same("a rule when called off", x.addRule('g', 0, 0, 0, 0), 7);
        for (int i = 8; i < 12; i++) {
            Check.same("a rule more", x.addRule('t', 0, 0, 0, 1), i);
        }
        Check.refuses(x, STATE, "a rule too many", () -> x.addRule('w', 0, 0, 0, 0));
        Check.refuses(x, ARGUMENT, "a rule too many, and wrong", () -> x.addRule('w', 0, 1, 0, 0));
        x.pass(1);
        Check.same("the last rule is looked at", x.holdsFor(11), 1);
        LaunchRange y = Ranges.flying();
        Check.same("a rule in the flight", y.addRule('w', 0, 0, 0, 0), 0);
        Check.same("a new rule has held for none", y.holdsFor(0), 0);
        Check.is("a rule in the flight leaves all sound", y.isSound(), true);
    }

    private static void addRuleRefuses(LaunchRange x) {
        for (char kind : new char[] {'x', 'm', 'o', 'c', 'd', 'r', 'T', ' ', (char) 0, (char) 65535}) {
            Check.refuses(x, ARGUMENT, "a rule of the kind " + (int) kind, () -> x.addRule(kind, 0, 0, 0, 0));
        }
        char[] kinds = {'t', 's', 'g'};
        int[] sizes = {3, 3, 6};
        for (int i = 0; i < 3; i++) {
            char kind = kinds[i];
            for (int about : new int[] {-1, sizes[i], Integer.MIN_VALUE, Integer.MAX_VALUE}) {
                Check.refuses(x, ARGUMENT, kind + " about " + about, () -> x.addRule(kind, about, 0, 0, 0));
            }
        }
        Check.refuses(x, ARGUMENT, "least over greatest", () -> x.addRule('w', 0, 1, 0, 0));
        Check.refuses(x, ARGUMENT, "least far over greatest",
                () -> x.addRule('w', 0, Integer.MAX_VALUE, Integer.MIN_VALUE, 0));
        Check.refuses(x, ARGUMENT, "-1 seconds", () -> x.addRule('w', 0, 0, 0, -1));
        Check.refuses(x, ARGUMENT, "301 seconds", () -> x.addRule('w', 0, 0, 0, 301));
    }

    private static void mayWaive() {
        Check.promise(16);
        LaunchRange x = Ranges.held();
        x.addRule('b', 0, 0, 0, 0);
        Check.is("mayWaive at first", x.mayWaive(0, 0), true);
        Check.is("mayWaive again", x.mayWaive(0, 0), false);
        Check.is("another console", x.mayWaive(0, 5), true);
        Check.is("the first console still may", x.mayWaive(0, 0), false);
        Check.is("another rule", x.mayWaive(1, 5), true);
        Check.refuses(x, INDEX, "mayWaive(-1, 0)", () -> x.mayWaive(-1, 0) ? 1 : 0);
        Check.refuses(x, INDEX, "mayWaive(2, 0)", () -> x.mayWaive(2, 0) ? 1 : 0);
        Check.refuses(x, INDEX, "mayWaive(2, 6)", () -> x.mayWaive(2, 6) ? 1 : 0);
        for (int w : new int[] {-1, 6, 32, Integer.MIN_VALUE, Integer.MAX_VALUE}) {
            Check.refuses(x, ARGUMENT, "mayWaive(0, " + w + ")", () -> x.mayWaive(0, w) ? 1 : 0);
        }
        Check.is("waived by the one who may", x.waive(0, 5, 0), false);
    }

    private static void waive() {
        Check.promise(17);
        LaunchRange x = Ranges.held();
        x.addRule('b', 0, 1, 1, 0);
        x.mayWaive(0, 3);
        Check.is("not waived", x.isMet(0), false);
        for (int w : new int[] {-1, 6, 35, Integer.MIN_VALUE}) {
            Check.refuses(x, ARGUMENT, "waive by " + w, () -> x.waive(0, w, 0) ? 1 : 0);
        }
        for (int w : new int[] {-601, 1, Integer.MIN_VALUE, Integer.MAX_VALUE}) {
            Check.refuses(x, ARGUMENT, "waive until " + w, () -> x.waive(0, 3, w) ? 1 : 0);
        }
        Check.refuses(x, INDEX, "waive(-1, 3, 0)", () -> x.waive(-1, 3, 0) ? 1 : 0);
        Check.refuses(x, INDEX, "waive(2, 3, 0)", () -> x.waive(2, 3, 0) ? 1 : 0);
        Check.refuses(x, INDEX, "waive(2, 6, 1)", () -> x.waive(2, 6, 1) ? 1 : 0);
        Check.refuses(x, UNSUPPORTED, "waive by one who may not", () -> x.waive(0, 2, 0) ? 1 : 0);
        Check.refuses(x, UNSUPPORTED, "waive another rule", () -> x.waive(1, 3, 0) ? 1 : 0);
        Check.refuses(x, ARGUMENT, "waive by one who may not, until 1", () -> x.waive(0, 2, 1) ? 1 : 0);
        Check.is("waive", x.waive(0, 3, -600), false);
        Check.is("waived up to a count ahead of this", x.isMet(0), false);
        Check.is("waive up to this count", x.waive(0, 3, -10), false);
        Check.is("waived up to this count", x.isMet(0), true);
        Check.is("the other rule is not waived", x.isMet(1), false);
        Check.is("waive when waived", x.waive(0, 3, 0), true);
        Check.is("waive by the last waiver up to less", x.waive(0, 3, -11), true);
        Check.is("the last waiver counts", x.isMet(0), false);
        Check.is("waive when not waived any more", x.waive(0, 3, 0), false);
        x.mayWaive(0, 4);
        Check.is("another waiver", x.waive(0, 4, -11), true);
        Check.is("the last waiver counts, of whomever", x.isMet(0), false);
    }

    private static void waiversByCount() {
        LaunchRange x = Ranges.held();
        x.mayWaive(0, 0);
        x.waive(0, 0, -7);
        x.pass(3);
        Check.same("goes on as it is waived", x.count(), -7);
        Check.is("waived at the count -7", x.isMet(0), true);
        x.pass(1);
        Check.same("still goes on in the second of the count -7", x.count(), -6);
        Check.is("not waived at the count -6", x.isMet(0), false);
        x.pass(5);
        Check.same("held", x.count(), -6);
        Check.same("for the rule", x.causeRule(), 0);
        Check.is("waive until the end", x.waive(0, 0, 0), false);
        x.pass(6);
        Check.sign("leaves", x.state(), 'f');
        Check.same("the count 0", x.count(), 0);
        Check.is("waived at the count 0 of the flight", x.isMet(0), true);
        Check.is("all is sound", x.isSound(), true);
        x.pass(1);
        Check.is("not waived at the count 1 of the flight", x.isMet(0), false);
        Check.is("waive in the flight", x.waive(0, 0, 0), false);
        Check.is("which does not count", x.isMet(0), false);
        Check.is("all is sound still", x.isSound(), true);
    }

    private static void waiversEnd() {
        LaunchRange x = Ranges.held();
        x.scrub();
        x.addMark(-8, 0, 0);
        x.mayWaive(0, 1);
        x.waive(0, 1, 0);
        x.begin(-10, 0, 5000);
        Check.is("waivers end as a count begins", x.isMet(0), false);
        Check.is("waive anew", x.waive(0, 1, 0), false);
        x.pass(5);
        Check.same("goes on", x.count(), -5);
        x.recycle(0);
        Check.is("waivers end as a count is set back", x.isMet(0), false);
        x.pass(1);
        Check.sign("held", x.state(), 'h');
        Check.is("who may still may", x.mayWaive(0, 1), false);
        Check.is("waive anew, set back", x.waive(0, 1, 0), false);
        x.pass(1);
        Check.sign("goes on once more", x.state(), 'c');
    }

    private static void waiversByState() {
        LaunchRange x = new LaunchRange();
        x.addRule('w', 0, 1, 1, 0);
        x.mayWaive(0, 1);
        Check.is("waive without a count", x.waive(0, 1, 0), false);
        Check.is("none counts without a count", x.isMet(0), false);
        Check.is("waive without a count again", x.waive(0, 1, 0), false);
        Check.real("none counts in the share", x.metShare(), 0.0);
        LaunchRange y = Ranges.calledOff();
        y.mayWaive(0, 1);
        y.waive(0, 1, -11);
        Check.is("called off at -10, waived up to -11", y.isMet(0), false);
        y.waive(0, 1, -10);
        Check.is("called off at -10, waived up to -10", y.isMet(0), true);
    }

    private static void go() {
        Check.promise(18);
        LaunchRange x = new LaunchRange();
        x.addRule('g', 0, 1, 1, 0);
        x.addRule('g', 5, 1, 1, 0);
        Check.is("go at first", x.go(0, true), false);
        Check.is("go again", x.go(0, true), true);
        Check.is("another console", x.go(5, false), false);
        Check.same("says go", x.value(0), 1);
        Check.same("does not say go", x.value(1), 0);
        Check.is("no go", x.go(0, false), true);
        Check.is("no go again", x.go(0, false), false);
        Check.same("says go no more", x.value(0), 0);
        for (int w : new int[] {-1, 6, Integer.MIN_VALUE, Integer.MAX_VALUE}) {
            Check.refuses(x, ARGUMENT, "go(" + w + ")", () -> x.go(w, true) ? 1 : 0);
        }
    }

    private static void value() {
        Check.promise(19);
        LaunchRange x = new LaunchRange();
        x.addRule('t', 1, 0, 0, 0);
        x.addRule('s', 2, 0, 0, 0);
        x.addRule('w', 0, 0, 0, 0);
        x.addRule('l', 0, 0, 0, 0);
        x.addRule('b', 0, 0, 0, 0);
        x.addRule('g', 3, 0, 0, 0);
        for (int i = 0; i < 6; i++) {
            Check.same("a value at first", x.value(i), 0);
        }
        x.setTank(1, 100, 9, 0);
        x.setValve(1, true);
        x.sense(6, -4);
        x.sense(7, -6);
        x.setWind(33);
        x.strike(3);
        x.boat(4, 1, 5);
        x.go(3, true);
        long[] due = {0, -4, 33, 1, 50, 1};
        for (int i = 0; i < 6; i++) {
            Check.same("a value as it is now", x.value(i), due[i]);
        }
        x.pass(1);
        Check.same("what came into the tank", x.value(0), 9);
        for (int w : new int[] {-1, 6, Integer.MIN_VALUE, Integer.MAX_VALUE}) {
            Check.refuses(x, INDEX, "value(" + w + ")", () -> x.value(w));
        }
    }

    private static void holdsFor() {
        Check.promise(20);
        LaunchRange x = new LaunchRange();
        x.addRule('w', 0, 5, 10, 0);
        x.setWind(5);
        Check.same("not looked at", x.holdsFor(0), 0);
        x.pass(1);
        Check.same("the least value", x.holdsFor(0), 1);
        x.setWind(10);
        x.pass(600);
        Check.same("the greatest value", x.holdsFor(0), 601);
        x.setWind(11);
        Check.same("looked at only as seconds pass", x.holdsFor(0), 601);
        x.pass(1);
        Check.same("greater", x.holdsFor(0), 0);
        x.setWind(7);
        x.pass(2);
        Check.same("again", x.holdsFor(0), 2);
        x.setWind(4);
        x.setWind(6);
        x.pass(1);
        Check.same("what was between two seconds is not seen", x.holdsFor(0), 3);
        x.setWind(4);
        x.pass(1);
        Check.same("less", x.holdsFor(0), 0);
        x.begin(-10, 0, 5000);
        x.setWind(5);
        x.pass(3);
        x.scrub();
        x.begin(-10, 0, 5000);
        Check.same("goes on as a count ends and begins", x.holdsFor(0), 3);
        x.pass(20);
        Check.same("goes on in the flight", x.holdsFor(0), 23);
        for (int w : new int[] {-1, 1, Integer.MIN_VALUE, Integer.MAX_VALUE}) {
            Check.refuses(x, INDEX, "holdsFor(" + w + ")", () -> x.holdsFor(w));
        }
        LaunchRange y = new LaunchRange();
        y.setTank(0, 100, 10, 0);
        y.setValve(0, true);
        y.addRule('t', 0, 20, 30, 0);
        y.pass(5);
        Check.same("passing by", y.holdsFor(0), 0);
        y.drain(0, 30);
        y.pass(1);
        Check.same("looked at behind filling", y.holdsFor(0), 1);
    }

    private static void isMet() {
        Check.promise(21);
        LaunchRange x = new LaunchRange();
        x.addRule('w', 0, 0, 10, 0);
        x.addRule('w', 0, 0, 10, 3);
        Check.is("0 seconds are held at once", x.isMet(0), true);
        Check.is("3 seconds are not", x.isMet(1), false);
        x.pass(2);
        Check.is("held for 2 seconds", x.isMet(1), false);
        x.pass(1);
        Check.is("held for 3 seconds", x.isMet(1), true);
        x.setWind(11);
        Check.is("by its value as it is now", x.isMet(0), false);
        Check.is("by its value as it is now, held for long", x.isMet(1), false);
        x.setWind(10);
        Check.is("back ahead of the next second", x.isMet(1), true);
        x.setWind(11);
        x.pass(1);
        x.setWind(0);
        Check.is("held for none, asked for 0", x.isMet(0), true);
        Check.is("held for none, asked for 3", x.isMet(1), false);
        for (int w : new int[] {-1, 2, Integer.MIN_VALUE, Integer.MAX_VALUE}) {
            Check.refuses(x, INDEX, "isMet(" + w + ")", () -> x.isMet(w) ? 1 : 0);
        }
        LaunchRange y = new LaunchRange();
        y.addRule('w', 0, 0, 10, 3);
        y.begin(-10, 0, 5000);
        y.pass(2);
        Check.same("held for 2 seconds, as the rule has not held for 3", y.count(), -10);
        y.pass(1);
        Check.same("goes on in the third", y.count(), -9);
        y.pass(600);
        Check.is("long held", y.isMet(0), true);
    }
}

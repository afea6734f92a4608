import java.util.NoSuchElementException;

/** The edges that the document's 'Terms' name, a test each. */
final class EdgesOfTermsTest {
    private static final Class<IllegalArgumentException> ARGUMENT = IllegalArgumentException.class;
    private static final Class<IllegalStateException> STATE = IllegalStateException.class;
    private static final Class<IndexOutOfBoundsException> INDEX = IndexOutOfBoundsException.class;
    private static final Class<UnsupportedOperationException> UNSUPPORTED = UnsupportedOperationException.class;
    private static final Class<NoSuchElementException> NONE = NoSuchElementException.class;
    private static final Class<ArithmeticException> ARITHMETIC = ArithmeticException.class;

    private EdgesOfTermsTest() {
    }

    private static void test(String sentence, Runnable test) {
        Edges.test(Edges.TERMS, sentence, test);
    }

    static void run() {
        measures();
        rules();
        seconds();
        count();
        callingOff();
        flight();
        log();
        exceptions();
    }

    private static void measures() {
        test("Three sensors measure the same, 0 each at first", EdgesOfTermsTest::sensorsAtFirst);
        test("those that are left out do not count", EdgesOfTermsTest::sensorsLeftOut);
        test("They tell together the one in the middle of three", EdgesOfTermsTest::middleOfThree);
        test("half of the sum of two, cut toward 0", EdgesOfTermsTest::halfOfTwo);
        test("or what the one tells", EdgesOfTermsTest::oneAlone);
    }

    private static void sensorsAtFirst() {
        for (int sensor = 0; sensor < 9; sensor++) {
            LaunchRange x = new LaunchRange();
            x.addRule('s', sensor / 3, 0, 0, 0);
            Check.same("at first", x.value(0), 0);
            Check.same("one of three tells more than the others' 0", x.sense(sensor, 9999), 0);
            Check.same("one of three tells less than the others' 0", x.sense(sensor, -9999), 0);
            for (int other = sensor / 3 * 3; other < sensor / 3 * 3 + 3; other++) {
                x.inhibit(other, other != sensor);
            }
            x.sense(sensor, 0);
            Check.same("alone", x.value(0), 0);
        }
    }

    private static void sensorsLeftOut() {
        LaunchRange x = new LaunchRange();
        x.addRule('s', 1, 0, 0, 0);
        x.sense(3, 100);
        x.sense(4, 200);
        x.sense(5, 400);
        x.inhibit(4, true);
        Check.same("without the middle one", x.value(0), 250);
        Check.same("it tells something else", x.sense(4, 9999), 250);
        x.inhibit(3, true);
        Check.same("without the least one", x.value(0), 400);
        Check.same("it tells something else", x.sense(3, -9999), 400);
        x.inhibit(3, false);
        x.inhibit(4, false);
        Check.same("all count again, with what they told meanwhile", x.value(0), 400);
    }

    private static void middleOfThree() {
        int[][] orders = {{0, 1, 2}, {0, 2, 1}, {1, 0, 2}, {1, 2, 0}, {2, 0, 1}, {2, 1, 0}};
        int[][] threes = {{-3, 4, 9}, {-9999, 0, 9999}, {-9999, -9999, 9999}, {-9999, 9999, 9999}, {5, 5, 5},
            {-2, -2, -1}, {9999, 9999, 9999}, {-9999, -9999, -9999}};
        for (int[] three : threes) {
            for (int[] order : orders) {
                LaunchRange x = new LaunchRange();
                x.sense(6, three[order[0]]);
                x.sense(7, three[order[1]]);
                Check.same("the middle", x.sense(8, three[order[2]]), three[1]);
            }
        }
    }

    private static void halfOfTwo() {
        int[][] twos = {{1, 2, 1}, {-1, -2, -1}, {1, -2, 0}, {-1, 2, 0}, {0, 1, 0}, {0, -1, 0}, {3, 5, 4},
            {-3, -5, -4}, {9999, 9999, 9999}, {-9999, -9999, -9999}, {9999, -9999, 0}, {9999, 9998, 9998},
            {-9999, -9998, -9998}, {-3, 0, -1}};
        for (int[] two : twos) {
            for (int out = 0; out < 3; out++) {
                LaunchRange x = new LaunchRange();
                x.inhibit(out, true);
                x.sense((out + 1) % 3, two[0]);
                Check.same("half of " + two[0] + " and " + two[1], x.sense((out + 2) % 3, two[1]), two[2]);
            }
        }
    }

    private static void oneAlone() {
        for (int one = 0; one < 3; one++) {
            LaunchRange x = new LaunchRange();
            x.inhibit((one + 1) % 3, true);
            x.inhibit((one + 2) % 3, true);
            for (int value : new int[] {-9999, -1, 0, 1, 9999}) {
                Check.same("one alone", x.sense(one, value), value);
            }
        }
    }

    private static void rules() {
        test("A rule holds if its value is from the least to the greatest one", EdgesOfTermsTest::leastAndGreatest);
        test("that of a console is 1 if it says go, otherwise 0", EdgesOfTermsTest::valueOfConsole);
        test("that of lightnings is how many were near, at most 20 away, in this second and the 599 ahead of it",
                EdgesOfTermsTest::nearLightnings);
        test("it has held for one second more, or for none", EdgesOfTermsTest::heldForOneMoreOrNone);
        test("It is met if it holds by its value as it is when this is asked", EdgesOfTermsTest::metByTheValueNow);
        test("and has held for its seconds at least", EdgesOfTermsTest::metAfterItsSeconds);
        test("as long as the count is not greater than that up to which it was told",
                EdgesOfTermsTest::waivedUpToTheCount);
        test("by the last waiver", EdgesOfTermsTest::waivedByTheLast);
        test("Waivers end as a count begins", EdgesOfTermsTest::waiversEndAtBegin);
        test("or is set back", EdgesOfTermsTest::waiversEndSetBack);
        test("without a count, none counts", EdgesOfTermsTest::waiversWithoutCount);
        test("in the flight, they count by the count told", EdgesOfTermsTest::waiversInFlight);
    }

    private static void leastAndGreatest() {
        int[][] cases = {{5, 7, 4, 0}, {5, 7, 5, 1}, {5, 7, 6, 1}, {5, 7, 7, 1}, {5, 7, 8, 0}, {6, 6, 5, 0},
            {6, 6, 6, 1}, {6, 6, 7, 0}, {Integer.MIN_VALUE, Integer.MAX_VALUE, 200, 1},
            {Integer.MIN_VALUE, Integer.MIN_VALUE, 0, 0}, {Integer.MAX_VALUE, Integer.MAX_VALUE, 200, 0},
            {Integer.MIN_VALUE, 0, 0, 1}, {Integer.MIN_VALUE, 0, 1, 0}, {1, Integer.MAX_VALUE, 0, 0},
            {1, Integer.MAX_VALUE, 1, 1}};
        for (int[] c : cases) {
            LaunchRange x = new LaunchRange();
            x.addRule('w', 0, c[0], c[1], 0);
            x.setWind(c[2]);
            x.pass(1);
            String what = c[2] + " from " + c[0] + " to " + c[1];
            Check.same(what + " has held", x.holdsFor(0), c[3]);
            Check.is(what + " is met", x.isMet(0), c[3] == 1);
        }
    }

    private static void valueOfConsole() {
        LaunchRange x = new LaunchRange();
        for (int i = 0; i < 6; i++) {
            x.addRule('g', i, 1, 1, 0);
            x.addRule('g', i, 0, 0, 0);
        }
        for (int i = 0; i < 6; i++) {
            Check.is("no console says go at first", x.isMet(2 * i), false);
            x.go(i, true);
            Check.same("says go", x.value(2 * i), 1);
            Check.is("is no 0", x.isMet(2 * i + 1), false);
            x.go(i, false);
            Check.same("says no go", x.value(2 * i), 0);
            Check.is("is a 0", x.isMet(2 * i + 1), true);
        }
    }

    private static void nearLightnings() {
        LaunchRange x = new LaunchRange();
        x.addRule('l', 0, 0, 0, 0);
        x.pass(3);
        x.strike(21);
        Check.same("at 21", x.value(0), 0);
        x.strike(20);
        Check.same("at 20", x.value(0), 1);
        x.pass(599);
        Check.same("599 seconds later", x.value(0), 1);
        x.strike(20);
        Check.same("one more", x.value(0), 2);
        x.pass(1);
        Check.same("600 seconds later", x.value(0), 1);
        Check.same("in all of the 600 seconds the rule was looked at, it did not hold", x.holdsFor(0), 0);
        x.pass(599);
        Check.same("the second one, 600 seconds later", x.value(0), 0);
        Check.same("not yet looked at", x.holdsFor(0), 0);
        x.pass(1);
        Check.same("looked at", x.holdsFor(0), 1);
    }

    private static void heldForOneMoreOrNone() {
        LaunchRange x = new LaunchRange();
        x.addRule('w', 0, 0, 10, 300);
        Check.same("not looked at", x.holdsFor(0), 0);
        x.pass(300);
        Check.same("as long as asked for", x.holdsFor(0), 300);
        x.pass(1);
        Check.same("longer than asked for", x.holdsFor(0), 301);
        x.setWind(11);
        x.pass(1);
        Check.same("for none", x.holdsFor(0), 0);
        x.pass(1);
        Check.same("for none again", x.holdsFor(0), 0);
        x.setWind(10);
        x.pass(1);
        Check.same("from 1 on", x.holdsFor(0), 1);
    }

    private static void metByTheValueNow() {
        LaunchRange x = new LaunchRange();
        x.addRule('w', 0, 0, 10, 1);
        x.pass(1);
        x.setWind(11);
        Check.is("held, but does not hold now", x.isMet(0), false);
        Check.real("nor in the share", x.metShare(), 0.0f);
        x.setWind(10);
        Check.is("holds now", x.isMet(0), true);
        x.setWind(11);
        x.pass(1);
        x.setWind(10);
        Check.is("holds now, but has not held", x.isMet(0), false);
    }

    private static void metAfterItsSeconds() {
        for (int seconds : new int[] {0, 1, 2, 300}) {
            LaunchRange x = new LaunchRange();
            x.addRule('w', 0, 0, 10, seconds);
            x.setWind(11);
            x.pass(1);
            x.setWind(10);
            if (seconds > 1) {
                x.pass(seconds - 1);
            }
            Check.is("one second ahead of " + seconds, x.isMet(0), seconds == 0);
            x.pass(1);
            Check.is("behind " + seconds, x.isMet(0), true);
        }
    }

    private static void waivedUpToTheCount() {
        LaunchRange x = Ranges.held();
        x.mayWaive(0, 0);
        Check.is("waive up to one less", x.waive(0, 0, -11), false);
        Check.is("the count is greater", x.isMet(0), false);
        x.waive(0, 0, -10);
        Check.is("the count is the same", x.isMet(0), true);
        x.pass(1);
        Check.same("goes on at this count", x.count(), -9);
        Check.is("the count is greater again", x.isMet(0), false);
        x.pass(1);
        Check.same("held at the next count", x.count(), -9);
        x.waive(0, 0, -1);
        x.pass(9);
        Check.sign("waived up to -1, it leaves", x.state(), 'f');
        Check.is("at 0 it is not waived", x.isMet(0), false);
        Check.is("which was not needed", x.isSound(), true);
    }

    private static void waivedByTheLast() {
        LaunchRange x = Ranges.held();
        x.mayWaive(0, 0);
        x.mayWaive(0, 1);
        x.waive(0, 0, 0);
        Check.is("the last waiver may tell less", x.waive(0, 1, -600), true);
        Check.is("which counts alone", x.isMet(0), false);
        Check.is("the last waiver may tell more", x.waive(0, 1, 0), false);
        Check.is("which counts alone, too", x.isMet(0), true);
    }

    private static void waiversEndAtBegin() {
        LaunchRange x = new LaunchRange();
        x.addRule('w', 0, 1, 1, 0);
        x.mayWaive(0, 0);
        x.waive(0, 0, 0);
        x.begin(-10, 0, 5000);
        Check.is("told ahead of the first count", x.isMet(0), false);
        x.waive(0, 0, 0);
        x.scrub();
        x.begin(-10, 0, 5000);
        Check.is("told in the count ahead", x.isMet(0), false);
        x.scrub();
        x.waive(0, 0, 0);
        x.begin(-10, 0, 5000);
        Check.is("told between two counts", x.isMet(0), false);
        x.pass(1);
        Check.same("held for it", x.causeRule(), 0);
    }

    private static void waiversEndSetBack() {
        LaunchRange x = Ranges.held();
        x.scrub();
        x.addMark(-10, 0, 0);
        x.mayWaive(0, 0);
        x.begin(-10, 0, 5000);
        x.waive(0, 0, 0);
        x.pass(1);
        Check.same("goes on, waived", x.count(), -9);
        x.recycle(0);
        Check.is("not waived any more", x.isMet(0), false);
        Check.is("so it was not", x.waive(0, 0, -11), false);
        x.pass(1);
        Check.same("held for it", x.causeRule(), 0);
    }

    private static void waiversWithoutCount() {
        LaunchRange x = new LaunchRange();
        x.addRule('w', 0, 1, 1, 0);
        x.mayWaive(0, 0);
        Check.is("waived by nobody", x.waive(0, 0, 0), false);
        Check.is("waived without a count", x.isMet(0), false);
        Check.is("it was not waived", x.waive(0, 0, 0), false);
        Check.real("in the share", x.metShare(), 0.0f);
        x.pass(600);
        Check.is("nor later", x.isMet(0), false);
    }

    private static void waiversInFlight() {
        LaunchRange x = Ranges.flying();
        x.addRule('w', 0, 1, 1, 0);
        x.mayWaive(0, 0);
        x.waive(0, 0, -1);
        Check.is("up to -1 at the count 0", x.isMet(0), false);
        Check.is("it was not waived", x.waive(0, 0, 0), false);
        Check.is("up to 0 at the count 0", x.isMet(0), true);
        Check.is("it was waived", x.waive(0, 0, 0), true);
        x.pass(1);
        Check.is("up to 0 at the count 1", x.isMet(0), false);
        Check.is("it was not waived any more", x.waive(0, 0, 0), false);
    }

    private static void seconds() {
        test("The first second is 0; it becomes 1 more at the end of each", EdgesOfTermsTest::firstSecond);
        test("in which this is done, in this order", EdgesOfTermsTest::orderInASecond);
        test("what boils off goes, cut", EdgesOfTermsTest::boilsOffCut);
        test("its rate comes in, as far as there is room", EdgesOfTermsTest::comesInAsFarAsThereIsRoom);
        test("While a count goes on, held or not", EdgesOfTermsTest::stepsOnlyWhileACountGoesOn);
        test("at whose beginning no step has begun", EdgesOfTermsTest::noStepHasBegun);
        test("each step that runs has a second less to go, and is done without any",
                EdgesOfTermsTest::stepsTakeTheirSeconds);
        test("then each one, by rising numbers, that has not begun", EdgesOfTermsTest::stepsOneBehindTheOther);
        test("whose count to begin from is not greater than the count", EdgesOfTermsTest::stepsBeginFromTheirCount);
        test("and of which all it is behind are done, runs", EdgesOfTermsTest::stepsWaitForAll);
    }

    private static void firstSecond() {
        LaunchRange x = new LaunchRange();
        Check.same("the first second", x.second(), 0);
        Check.same("the next one", x.pass(1), 1);
        Check.same("is told", x.second(), 1);
        x.begin(-10, 0, 5000);
        Check.same("a begun count takes none", x.second(), 1);
        Check.same("many", x.pass(600), 601);
    }

    private static void orderInASecond() {
        LaunchRange x = new LaunchRange();
        x.setTank(0, 100, 10, 0);
        x.setValve(0, true);
        x.addRule('t', 0, 10, 100, 1);
        x.addStep(-10, 1);
        x.addMark(-9, 0, 1);
        x.track(0, 101);
        x.track(1, 101);
        x.begin(-10, 0, 5000);
        x.pass(1);
        Check.same("tanks ahead of rules, and rules ahead of the count", x.count(), -9);
        Check.sign("steps go by the count ahead of its change", x.stepState(0), 'r');
        x.pass(1);
        Check.same("steps ahead of the count", x.count(), -8);
        x.pass(8);
        Check.sign("the second in which it leaves is none of the flight", x.state(), 'f');
        x.pass(1);
        Check.sign("the next one is", x.state(), 'x');
    }

    private static LaunchRange filled(int amount) {
        LaunchRange x = new LaunchRange();
        x.setTank(0, 100000, 1000, 0);
        x.setValve(0, true);
        if (amount >= 1000) {
            x.pass(amount / 1000);
        }
        x.setTank(0, 100000, amount % 1000, 0);
        x.pass(1);
        x.setValve(0, false);
        Check.same("filled", x.inTank(0), amount);
        return x;
    }

    private static void boilsOffCut() {
        int[][] cases = {{0, 100, 0}, {1, 100, 1}, {9, 100, 9}, {10, 100, 9}, {19, 100, 18}, {999, 1, 999},
            {1000, 1, 999}, {1999, 1, 1998}, {100000, 100, 90000}, {100000, 0, 100000}, {99999, 100, 90000},
            {34, 29, 34}, {35, 29, 34}};
        for (int[] c : cases) {
            LaunchRange x = filled(c[0]);
            x.setTank(0, 100000, 1000, c[1]);
            x.pass(1);
            Check.same(c[1] + " thousandths of " + c[0] + " boil off", x.inTank(0), c[2]);
        }
    }

    private static void comesInAsFarAsThereIsRoom() {
        int[][] roomRateBoil = {{200, 10, 0, 110}, {110, 10, 0, 110}, {109, 10, 0, 109}, {100, 10, 0, 100},
            {100, 0, 0, 100}, {100, 9, 100, 99}, {100, 10, 100, 100}, {100, 11, 100, 100}, {100, 0, 100, 90},
            {100000, 1000, 0, 1100}, {0, 1000, 0, 0}};
        for (int[] c : roomRateBoil) {
            LaunchRange x = filled(100);
            x.setTank(0, c[0], c[1], c[2]);
            x.setValve(0, true);
            x.pass(1);
            Check.same("room " + c[0] + " rate " + c[1] + " boil " + c[2], x.inTank(0), c[3]);
        }
        LaunchRange y = new LaunchRange();
        y.setTank(1, 25, 10, 0);
        y.setValve(1, true);
        int[] due = {10, 20, 25, 25};
        for (int d : due) {
            y.pass(1);
            Check.same("full at 25", y.inTank(1), d);
        }
        y.setValve(1, false);
        y.drain(1, 5);
        y.pass(1);
        Check.same("a shut valve lets nothing in", y.inTank(1), 20);
    }

    private static void stepsOnlyWhileACountGoesOn() {
        LaunchRange x = new LaunchRange();
        x.addStep(-600, 2);
        x.addRule('w', 0, 0, 10, 0);
        x.setWind(11);
        x.pass(600);
        Check.sign("without a count", x.stepState(0), '-');
        x.begin(-10, 0, 5000);
        Check.sign("no second went by", x.stepState(0), '-');
        x.pass(1);
        Check.sign("held", x.state(), 'h');
        Check.sign("begins while held", x.stepState(0), 'r');
        x.scrub();
        x.pass(600);
        Check.sign("stands when called off", x.stepState(0), 'r');
        LaunchRange y = new LaunchRange();
        y.addStep(-2, 2);
        y.addStep(-1, 2);
        y.begin(-10, 0, 5000);
        y.pass(10);
        Check.sign("flies", y.state(), 'f');
        Check.text("goes on in the second in which it leaves", Look.stepStates(y), "rr");
        y.pass(100);
        Check.text("stands in the flight and behind it", Look.stepStates(y), "rr");
    }

    private static void noStepHasBegun() {
        LaunchRange x = new LaunchRange();
        x.addStep(-10, 1);
        x.addStep(-10, 9);
        x.addStep(-1, 1);
        x.begin(-10, 0, 5000);
        x.pass(4);
        x.scrub();
        Check.text("called off", Look.stepStates(x), "er-");
        x.begin(-10, 0, 5000);
        Check.text("begun again", Look.stepStates(x), "---");
        x.pass(9);
        Check.text("with all its seconds again", Look.stepStates(x), "er-");
        x.pass(1);
        Check.text("done again", Look.stepStates(x), "eer");
    }

    private static void stepsTakeTheirSeconds() {
        for (int seconds : new int[] {1, 2, 300}) {
            LaunchRange x = Ranges.calledOff();
            x.addStep(-600, seconds);
            x.begin(-10, 0, 5000);
            x.pass(seconds);
            Check.sign("runs for " + seconds, x.stepState(0), 'r');
            x.pass(1);
            Check.sign("is done behind " + seconds, x.stepState(0), 'e');
        }
    }

    private static void stepsOneBehindTheOther() {
        LaunchRange x = Ranges.calledOff();
        for (int i = 0; i < 4; i++) {
            x.addStep(-10, 1);
        }
        for (int i = 1; i < 4; i++) {
            x.setAfter(i, i - 1);
        }
        x.begin(-10, 0, 5000);
        String[] due = {"----", "r---", "er--", "eer-", "eeer", "eeee", "eeee"};
        for (String d : due) {
            Check.text("one behind the other", Look.stepStates(x), d);
            x.pass(1);
        }
    }

    private static void stepsBeginFromTheirCount() {
        LaunchRange x = new LaunchRange();
        x.addStep(-600, 300);
        x.addStep(-10, 300);
        x.addStep(-9, 300);
        x.addStep(-1, 300);
        x.begin(-10, 0, 5000);
        x.pass(1);
        Check.text("the second of the count -10", Look.stepStates(x), "rr--");
        x.pass(1);
        Check.text("the second of the count -9", Look.stepStates(x), "rrr-");
        x.pass(7);
        Check.text("the second of the count -2", Look.stepStates(x), "rrr-");
        x.pass(1);
        Check.text("the second of the count -1", Look.stepStates(x), "rrrr");
    }

    private static void stepsWaitForAll() {
        LaunchRange x = Ranges.calledOff();
        for (int i = 0; i < 15; i++) {
            x.addStep(-10, 1 + i);
        }
        x.addStep(-10, 1);
        for (int i = 0; i < 15; i++) {
            x.setAfter(15, i);
        }
        x.begin(-10, 0, 5000);
        x.pass(15);
        Check.text("one of 15 runs still", Look.stepStates(x), "eeeeeeeeeeeeeer-");
        x.pass(1);
        Check.text("runs in the second in which the last one is done", Look.stepStates(x), "eeeeeeeeeeeeeeer");
    }

    private static void count() {
        test("for the first of these that holds, and the count does not change", EdgesOfTermsTest::firstCauseOfAll);
        test("a rule that is not met, the lowest first", EdgesOfTermsTest::lowestRule);
        test("a mark of this count, if its steps are not all done", EdgesOfTermsTest::markWaitsForSteps);
        test("for fewer seconds than its own since the count came here", EdgesOfTermsTest::markHoldsItsSeconds);
        test("or it was held here, for whatever cause", EdgesOfTermsTest::markCountsOtherCauses);
        test("at the count -1, the window, if the next second is ahead of it", EdgesOfTermsTest::waitsForTheWindow);
        test("If it is not held, it becomes 1 greater", EdgesOfTermsTest::becomesOneGreater);
        test("At 0 the rocket leaves, if the second is in its window, both ends included",
                EdgesOfTermsTest::leavesInItsWindow);
        test("which the second is that is next", EdgesOfTermsTest::leavesInTheNextSecond);
    }

    private static void firstCauseOfAll() {
        LaunchRange x = new LaunchRange();
        x.addRule('w', 0, 0, 10, 0);
        x.addStep(-600, 12);
        x.addMark(-1, 0, 1);
        x.begin(-10, 20, 5000);
        x.pass(9);
        x.setWind(11);
        x.pass(1);
        Check.sign("a rule, a mark and the window", x.cause(), 'w');
        x.setWind(0);
        x.pass(1);
        Check.sign("a mark and the window", x.cause(), 'm');
        x.pass(2);
        Check.sign("the window", x.cause(), 'o');
        Check.same("the count does not change", x.count(), -1);
        Check.same("held in each second", x.holds(), 4);
    }

    private static void lowestRule() {
        LaunchRange x = new LaunchRange();
        for (int i = 0; i < 12; i++) {
            x.addRule('b', 0, 10 * i, 1000, 0);
        }
        x.begin(-10, 0, 5000);
        int[] people = {0, 1, 10, 11};
        int[] due = {1, 2, 11, -1};
        for (int i = 0; i < due.length; i++) {
            for (int boat = 0; boat < 8; boat++) {
                x.boat(boat, 0, 0);
            }
            x.boat(0, people[i], 9);
            x.pass(1);
            int rule = due[i];
            if (rule >= 0) {
                Check.same("the lowest of those not met", x.causeRule(), rule);
            } else {
                Check.sign("all are met", x.state(), 'c');
            }
        }
    }

    private static void markWaitsForSteps() {
        LaunchRange x = new LaunchRange();
        x.addStep(-10, 3);
        x.addStep(-10, 5);
        x.addStep(-10, 300);
        x.addMark(-9, 0, 3);
        x.begin(-10, 0, 5000);
        x.pass(5);
        Check.text("one of two is done", Look.stepStates(x), "err");
        Check.same("held at the mark", x.count(), -9);
        Check.sign("for the mark", x.cause(), 'm');
        x.pass(1);
        Check.text("both are done", Look.stepStates(x), "eer");
        Check.same("goes on in this second", x.count(), -8);
    }

    private static void markHoldsItsSeconds() {
        for (int seconds : new int[] {0, 1, 2, 300}) {
            LaunchRange x = new LaunchRange();
            x.addMark(-10, seconds, 0);
            x.begin(-10, 0, 5000);
            if (seconds > 0) {
                x.pass(seconds);
            }
            Check.same("held for " + seconds, x.count(), -10);
            x.pass(1);
            Check.same("no longer than " + seconds, x.count(), -9);
            Check.same("in all", x.holds(), seconds);
            x.recycle(0);
            x.pass(seconds + 1);
            Check.same("it came here anew", x.count(), -9);
            Check.same("in all, set back", x.holds(), 2 * seconds);
        }
    }

    private static void markCountsOtherCauses() {
        for (int others = 0; others < 5; others++) {
            LaunchRange x = new LaunchRange();
            x.addRule('w', 0, 0, 10, 0);
            x.addMark(-10, 3, 0);
            x.begin(-10, 0, 5000);
            x.setWind(11);
            for (int i = 0; i < others; i++) {
                x.pass(1);
            }
            x.setWind(0);
            while (x.count() == -10 && x.second() < 20) {
                x.pass(1);
            }
            Check.same("held for " + others + " seconds for a rule", x.holds(), Math.max(3, others));
        }
    }

    private static void waitsForTheWindow() {
        int[][] cases = {{9, 0}, {10, 0}, {11, 1}, {12, 2}, {5000, 4990}};
        for (int[] c : cases) {
            LaunchRange x = new LaunchRange();
            x.begin(-10, c[0], 5000);
            x.pass(9);
            Check.same("comes to -1 without a hold", x.count(), -1);
            Check.sign("counting", x.state(), 'c');
            while (x.state() != 'f' && x.second() <= 5000) {
                x.pass(1);
            }
            Check.same("held for a window that opens at " + c[0], x.holds(), c[1]);
            Check.same("leaves as it opens", x.second(), Math.max(10, c[0]));
        }
    }

    private static void becomesOneGreater() {
        LaunchRange x = new LaunchRange();
        x.begin(-600, 0, 5000);
        for (int i = 1; i <= 600; i++) {
            x.pass(1);
            Check.same("the count", x.count(), i - 600);
            Check.sign("the state", x.state(), i < 600 ? 'c' : 'f');
        }
    }

    private static void leavesInItsWindow() {
        int[][] windows = {{0, 10}, {10, 10}, {10, 5000}, {0, 5000}, {9, 10}, {10, 11}, {11, 11}, {4999, 5000}};
        for (int[] w : windows) {
            LaunchRange x = new LaunchRange();
            x.pass(100);
            x.begin(-10, w[0], w[1]);
            while (x.state() != 'f' && x.second() < 5200) {
                x.pass(1);
            }
            Check.same("leaves in " + w[0] + " to " + w[1], x.second() - 100, Math.max(10, w[0]));
            Check.same("at 0", x.count(), 0);
            Check.is("all is sound", x.isSound(), true);
        }
    }

    private static void leavesInTheNextSecond() {
        LaunchRange x = new LaunchRange();
        x.begin(-10, 10, 10);
        x.pass(10);
        Check.text("in the second 9, for the next one", Look.log(x), "0C;9F;");
        LaunchRange y = new LaunchRange();
        y.begin(-10, 9, 9);
        y.pass(1);
        Check.text("the second 9 itself is too early", Look.log(y), "0C;0S;");
    }

    private static void callingOff() {
        test("In each second, held or not, if this cannot be in the window any more",
                EdgesOfTermsTest::calledOffHeldOrNot);
        test("as the next second less the count then is behind it", EdgesOfTermsTest::calledOffAtTheLastSecond);
        test("for the cause for which it was held first since it began", EdgesOfTermsTest::calledOffForTheFirstCause);
        test("also ahead of being set back", EdgesOfTermsTest::calledOffForACauseAheadOfBeingSetBack);
        test("or for the window, if it was never held", EdgesOfTermsTest::calledOffForTheWindow);
        test("To call it off by hand has the cause of a call", EdgesOfTermsTest::calledOffByHand);
    }

    private static void calledOffHeldOrNot() {
        LaunchRange x = new LaunchRange();
        x.begin(-10, 0, 9);
        Check.sign("not as it begins", x.state(), 'c');
        x.pass(1);
        Check.sign("not held", x.state(), 's');
        Check.same("the count went on", x.count(), -9);
        LaunchRange y = new LaunchRange();
        y.addRule('w', 0, 1, 1, 0);
        y.begin(-10, 0, 10);
        y.pass(1);
        Check.sign("held", y.state(), 's');
        Check.same("the count did not change", y.count(), -10);
        Check.text("held, and called off", Look.log(y), "0C;0H;0S;");
        y.pass(600);
        Check.text("once", Look.log(y), "0C;0H;0S;");
    }

    private static void calledOffAtTheLastSecond() {
        for (int spare : new int[] {0, 1, 2, 300}) {
            LaunchRange x = new LaunchRange();
            x.addRule('w', 0, 0, 10, 0);
            x.begin(-10, 0, 10 + spare);
            x.setWind(11);
            if (spare > 0) {
                x.pass(spare);
                Check.sign("held for all that the window leaves", x.state(), 'h');
            }
            x.pass(1);
            Check.sign("held for one second more", x.state(), 's');
            Check.same("in all", x.holds(), spare + 1);
            LaunchRange y = new LaunchRange();
            y.addMark(-1, spare, 0);
            y.begin(-10, 0, 10 + spare);
            y.pass(10 + spare);
            Check.sign("leaves in the last second", y.state(), 'f');
            Check.is("all is sound", y.isSound(), true);
        }
    }

    private static void calledOffForTheFirstCause() {
        LaunchRange x = new LaunchRange();
        x.addRule('w', 0, 0, 10, 0);
        x.addRule('b', 0, 0, 10, 0);
        x.begin(-10, 0, 12);
        x.boat(0, 1, 0);
        x.pass(1);
        Check.same("held first for boats", x.causeRule(), 1);
        x.setWind(11);
        x.pass(1);
        Check.same("held for the wind", x.causeRule(), 0);
        x.boat(0, 0, 0);
        x.pass(1);
        Check.sign("called off", x.state(), 's');
        Check.sign("for boats", x.cause(), 'b');
        Check.same("the rule 1", x.causeRule(), 1);
        x.setWind(0);
        x.begin(-10, 0, 9);
        x.pass(1);
        Check.sign("what held a count ahead does not matter", x.cause(), 'o');
    }

    private static void calledOffForACauseAheadOfBeingSetBack() {
        LaunchRange x = new LaunchRange();
        x.addMark(-9, 1, 0);
        x.addRule('w', 0, 0, 10, 0);
        x.begin(-10, 0, 13);
        x.pass(4);
        Check.same("held for the mark, then went on", x.count(), -7);
        x.recycle(0);
        x.setWind(11);
        x.pass(1);
        Check.sign("called off, held for the wind", x.state(), 's');
        Check.sign("for the mark", x.cause(), 'm');
        Check.refuses(x, NONE, "the rule of a mark", x::causeRule);
    }

    private static void calledOffForTheWindow() {
        LaunchRange x = new LaunchRange();
        x.addMark(-9, 0, 0);
        x.begin(-10, 0, 10);
        x.pass(2);
        x.recycle(0);
        Check.sign("not as it is set back", x.state(), 'c');
        x.pass(1);
        Check.sign("called off", x.state(), 's');
        Check.sign("for the window", x.cause(), 'o');
        Check.same("never held", x.holds(), 0);
        Check.refuses(x, NONE, "the rule of the window", x::causeRule);
    }

    private static void calledOffByHand() {
        LaunchRange x = Ranges.held();
        x.scrub();
        Check.sign("held for a rule, then called off", x.cause(), 'c');
        Check.refuses(x, NONE, "the rule of a call", x::causeRule);
        LaunchRange y = new LaunchRange();
        y.begin(-10, 0, 0);
        y.scrub();
        Check.sign("never held, and too late", y.cause(), 'c');
    }

    private static void flight() {
        test("In each second behind that in which it left, the first one being its second 1",
                EdgesOfTermsTest::firstSecondOfTheFlight);
        test("if both radars see it more than 100 off its way, on whichever side, it is destroyed",
                EdgesOfTermsTest::offItsWay);
        test("else if they disagree by more than 20", EdgesOfTermsTest::radarsDisagree);
        test("in 3 seconds, one behind the other", EdgesOfTermsTest::oneBehindTheOther);
        test("else in its second 60 it is beyond the range", EdgesOfTermsTest::beyondTheRange);
    }

    private static void firstSecondOfTheFlight() {
        LaunchRange x = new LaunchRange();
        x.track(0, -999);
        x.track(1, 999);
        x.begin(-10, 0, 5000);
        x.pass(10);
        Check.sign("left", x.state(), 'f');
        Check.same("0 seconds ago", x.count(), 0);
        x.pass(1);
        Check.same("its second 1", x.count(), 1);
        Check.text("the first one that counts", Look.log(x), "0C;9F;10X;");
        LaunchRange y = new LaunchRange();
        y.track(0, 21);
        y.begin(-10, 0, 5000);
        y.pass(12);
        Check.sign("its second 2", y.state(), 'f');
        y.pass(1);
        Check.sign("its second 3", y.state(), 'x');
    }

    private static void offItsWay() {
        int[][] cases = {{100, 100, 0}, {101, 100, 0}, {100, 101, 0}, {101, 101, 1}, {-100, -100, 0}, {-101, -100, 0},
            {-100, -101, 0}, {-101, -101, 1}, {101, -101, 1}, {-101, 101, 1}, {999, -999, 1}, {0, 999, 0},
            {-999, 0, 0}, {-100, 100, 0}};
        for (int[] c : cases) {
            LaunchRange x = Ranges.flying();
            x.track(0, c[0]);
            x.track(1, c[1]);
            x.pass(1);
            Check.sign(c[0] + " and " + c[1] + " off", x.state(), c[2] == 1 ? 'x' : 'f');
            if (c[2] == 1) {
                Check.sign("cause", x.cause(), 'd');
            } else {
                Check.refuses(x, NONE, "cause", x::cause);
            }
        }
    }

    private static void radarsDisagree() {
        int[][] cases = {{0, 20, 0}, {0, 21, 1}, {20, 0, 0}, {21, 0, 1}, {-10, 10, 0}, {-10, 11, 1}, {0, -20, 0},
            {0, -21, 1}, {100, 79, 1}, {100, 80, 0}, {-999, 100, 1}, {999, -100, 1}, {100, 120, 0}};
        for (int[] c : cases) {
            LaunchRange x = Ranges.flying();
            x.track(0, c[0]);
            x.track(1, c[1]);
            x.pass(3);
            Check.sign(c[0] + " and " + c[1] + " in 3 seconds", x.state(), c[2] == 1 ? 'x' : 'f');
            if (c[2] == 1) {
                Check.sign("cause", x.cause(), 'r');
                Check.refuses(x, NONE, "the rule of radars", x::causeRule);
            }
        }
        LaunchRange y = Ranges.flying();
        y.track(0, 101);
        y.pass(2);
        y.track(0, 999);
        y.track(1, 101);
        y.pass(1);
        Check.sign("off its way is ahead of it", y.cause(), 'd');
    }

    private static void oneBehindTheOther() {
        LaunchRange x = Ranges.flying();
        for (int i = 0; i < 5; i++) {
            x.track(0, 21);
            x.pass(2);
            Check.sign("in 2 seconds", x.state(), 'f');
            x.track(0, 20);
            x.pass(1);
            Check.sign("then they agree", x.state(), 'f');
        }
        x.track(0, 21);
        x.pass(1);
        x.track(0, -21);
        x.pass(1);
        x.track(0, 0);
        x.track(1, 50);
        x.pass(1);
        Check.sign("in 3 seconds, each time otherwise", x.state(), 'x');
        Check.same("the second of the flight", x.count(), 18);
    }

    private static void beyondTheRange() {
        LaunchRange x = Ranges.flying();
        x.pass(59);
        Check.sign("its second 59", x.state(), 'f');
        x.pass(1);
        Check.sign("its second 60", x.state(), 'o');
        Check.refuses(x, NONE, "cause", x::cause);
        LaunchRange y = Ranges.flying();
        y.pass(59);
        y.track(0, 101);
        y.track(1, 101);
        y.pass(1);
        Check.sign("off its way in its second 60", y.cause(), 'd');
        LaunchRange z = Ranges.flying();
        z.pass(57);
        z.track(0, 21);
        z.pass(2);
        Check.sign("radars disagree in 2 seconds", z.state(), 'f');
        z.pass(1);
        Check.sign("radars disagree for the third time in its second 60", z.cause(), 'r');
        LaunchRange w = Ranges.flying();
        w.pass(58);
        w.track(0, 21);
        w.pass(2);
        Check.sign("radars disagree for the second time in its second 60", w.state(), 'o');
        w.pass(2);
        Check.sign("nothing is seen beyond it", w.state(), 'o');
    }

    private static void log() {
        test("The log has, for each change of the state, the second", EdgesOfTermsTest::logOfEachChange);
        test("which is that gone through for what passing seconds do", EdgesOfTermsTest::logTellsTheSecondGoneThrough);
        test("A count that is held in the first second is logged so", EdgesOfTermsTest::logOfAFirstHold);
    }

    private static void logOfEachChange() {
        LaunchRange x = new LaunchRange();
        Check.text("no change", Look.log(x), "");
        x.addMark(-9, 1, 0);
        x.addRule('w', 0, 0, 10, 0);
        x.begin(-10, 0, 5000);
        Check.text("a count begins", Look.log(x), "0C;");
        x.pass(2);
        Check.text("it is held", Look.log(x), "0C;1H;");
        x.setWind(11);
        x.pass(3);
        Check.text("held still, though for another cause", Look.log(x), "0C;1H;");
        x.setWind(0);
        x.pass(1);
        Check.text("it goes on", Look.log(x), "0C;1H;5G;");
        x.pass(1);
        Check.text("it goes on still", Look.log(x), "0C;1H;5G;");
        x.recycle(0);
        Check.text("it is set back", Look.log(x), "0C;1H;5G;7R;");
        x.pass(1);
        x.scrub();
        Check.text("it is called off", Look.log(x), "0C;1H;5G;7R;7H;8S;");
        x.scrub();
        x.pass(1);
        Check.text("nothing to call off", Look.log(x), "0C;1H;5G;7R;7H;8S;");
        x.begin(-10, 0, 5000);
        x.pass(11);
        Check.text("the rocket leaves", Look.log(x), "0C;1H;5G;7R;7H;8S;9C;10H;11G;19F;");
        x.pass(600);
        Check.text("beyond the range", Look.log(x), "0C;1H;5G;7R;7H;8S;9C;10H;11G;19F;79O;");
        Check.text("destroyed", Look.log(Ranges.destroyed()), "0C;9F;10X;");
    }

    private static void logTellsTheSecondGoneThrough() {
        LaunchRange x = new LaunchRange();
        x.pass(9);
        x.addRule('w', 0, 1, 1, 0);
        x.begin(-10, 0, 5000);
        x.pass(1);
        Check.text("the second 9 is gone through", Look.log(x), "9C;9H;");
        x.scrub();
        Check.text("a call is in the second 10", Look.log(x), "9C;9H;10S;");
        LaunchRange y = new LaunchRange();
        for (int i = 0; i < 166; i++) {
            y.pass(600);
        }
        y.pass(390);
        y.begin(-10, 0, 10);
        y.pass(10);
        Check.text("the last second gone through", Look.log(y), "99990C;99999F;");
    }

    private static void logOfAFirstHold() {
        Check.text("held for a rule", Look.log(Ranges.held()), "0C;0H;");
        LaunchRange x = new LaunchRange();
        x.addMark(-10, 1, 0);
        x.begin(-10, 0, 5000);
        x.pass(2);
        Check.text("held for a mark", Look.log(x), "0C;0H;1G;");
    }

    private static void exceptions() {
        test("A method that throws an exception changes nothing", EdgesOfTermsTest::refusedCallsChangeNothing);
        test("If several exceptions apply, the one that is documented first is thrown",
                EdgesOfTermsTest::firstExceptionOfSeveral);
    }

    private static LaunchRange full() {
        LaunchRange x = new LaunchRange();
        for (int i = 0; i < 16; i++) {
            x.addStep(-10, 1);
        }
        for (int i = 1; i < 7; i++) {
            x.addMark(-i, 1, i);
        }
        for (int i = 0; i < 12; i++) {
            x.addRule('w', 0, 1, 1, 0);
        }
        x.setTank(0, 100, 10, 1);
        x.setValve(0, true);
        x.pass(5);
        x.inhibit(0, true);
        x.inhibit(1, true);
        x.mayWaive(0, 0);
        return x;
    }

    private static void refusedCallsChangeNothing() {
        LaunchRange[] all = {new LaunchRange(), full(), Ranges.held(), Ranges.calledOff(), Ranges.flying(),
            Ranges.destroyed(), Ranges.beyond()};
        for (LaunchRange x : all) {
            refusedInAnyState(x);
            if ("-s".indexOf(x.state()) < 0) {
                Check.refuses(x, STATE, "addStep", () -> x.addStep(-10, 1));
                Check.refuses(x, STATE, "addMark", () -> x.addMark(-20, 1, 0));
                Check.refuses(x, STATE, "begin", () -> x.begin(-10, 0, 100));
            }
            if ("hsx".indexOf(x.state()) < 0) {
                Check.refuses(x, NONE, "cause", x::cause);
                Check.refuses(x, NONE, "causeRule", x::causeRule);
            }
        }
        LaunchRange x = full();
        Check.refuses(x, STATE, "a step too many", () -> x.addStep(-10, 1));
        Check.refuses(x, STATE, "a mark too many", () -> x.addMark(-7, 1, 0));
        Check.refuses(x, STATE, "a rule too many", () -> x.addRule('w', 0, 0, 0, 0));
        Check.refuses(x, UNSUPPORTED, "the last sensor", () -> x.inhibit(2, true));
        Check.refuses(x, UNSUPPORTED, "no count", () -> x.recycle(0));
        Check.refuses(x, UNSUPPORTED, "no such waiver", () -> x.waive(0, 1, 0) ? 1 : 0);
        LaunchRange y = new LaunchRange();
        Check.refuses(y, STATE, "count", y::count);
        Check.refuses(y, STATE, "holds", y::holds);
        Check.refuses(y, ARITHMETIC, "metShare", () -> (long) y.metShare());
        Check.refuses(y, ARITHMETIC, "meanFill", () -> (long) y.meanFill());
    }

    private static void refusedInAnyState(LaunchRange x) {
        Check.refuses(x, ARGUMENT, "setTank", () -> x.setTank(0, 50, 5, 101));
        Check.refuses(x, ARGUMENT, "setValve", () -> x.setValve(3, true) ? 1 : 0);
        Check.refuses(x, ARGUMENT, "drain", () -> x.drain(0, 100001));
        Check.refuses(x, ARGUMENT, "inTank", () -> x.inTank(3));
        Check.refuses(x, ARGUMENT, "addStep", () -> x.addStep(-10, 301));
        Check.refuses(x, INDEX, "setAfter", () -> x.setAfter(16, 0));
        Check.refuses(x, INDEX, "stepState", () -> x.stepState(16));
        Check.refuses(x, ARGUMENT, "addMark", () -> x.addMark(-20, 301, 0));
        Check.refuses(x, ARGUMENT, "sense", () -> x.sense(0, 10000));
        Check.refuses(x, ARGUMENT, "inhibit", () -> x.inhibit(9, true));
        Check.refuses(x, ARGUMENT, "setWind", () -> x.setWind(201));
        Check.refuses(x, ARGUMENT, "strike", () -> x.strike(100));
        Check.refuses(x, ARGUMENT, "boat", () -> x.boat(0, 1, 100));
        Check.refuses(x, ARGUMENT, "addRule", () -> x.addRule('w', 0, 0, 0, 301));
        Check.refuses(x, INDEX, "mayWaive", () -> x.mayWaive(12, 0) ? 1 : 0);
        Check.refuses(x, INDEX, "waive", () -> x.waive(12, 0, 0) ? 1 : 0);
        Check.refuses(x, ARGUMENT, "go", () -> x.go(6, true) ? 1 : 0);
        Check.refuses(x, INDEX, "value", () -> x.value(12));
        Check.refuses(x, INDEX, "holdsFor", () -> x.holdsFor(12));
        Check.refuses(x, INDEX, "isMet", () -> x.isMet(12) ? 1 : 0);
        Check.refuses(x, ARGUMENT, "begin", () -> x.begin(-10, 0, 5001));
        Check.refuses(x, INDEX, "recycle", () -> x.recycle(6));
        Check.refuses(x, ARGUMENT, "pass", () -> x.pass(601));
        Check.refuses(x, ARGUMENT, "track", () -> x.track(0, 1000));
        Check.refuses(x, INDEX, "logAt", () -> x.logAt(x.logLength()));
    }

    private static void firstExceptionOfSeveral() {
        LaunchRange x = full();
        x.begin(-10, 0, 5000);
        Check.refuses(x, ARGUMENT, "addStep, full and counting", () -> x.addStep(0, 1));
        Check.refuses(x, INDEX, "setAfter, counting, no lower number", () -> x.setAfter(16, 17));
        Check.refuses(x, ARGUMENT, "setAfter, counting, no lower number", () -> x.setAfter(1, 1));
        Check.refuses(x, ARGUMENT, "addMark, full, counting, no such step", () -> x.addMark(0, 0, 1 << 16));
        Check.refuses(x, ARGUMENT, "addMark, full, counting, no such step, there is one",
                () -> x.addMark(-1, 0, 1 << 16));
        Check.refuses(x, UNSUPPORTED, "addMark, full, counting, no such step", () -> x.addMark(-7, 0, 1 << 16));
        Check.refuses(x, ARGUMENT, "addRule, full", () -> x.addRule('w', 0, 1, 0, 0));
        Check.refuses(x, INDEX, "mayWaive, no such console", () -> x.mayWaive(12, 6) ? 1 : 0);
        Check.refuses(x, INDEX, "waive, no such console, who may not", () -> x.waive(12, 6, 0) ? 1 : 0);
        Check.refuses(x, ARGUMENT, "waive, until 1, who may not", () -> x.waive(1, 0, 1) ? 1 : 0);
        Check.refuses(x, ARGUMENT, "waive, no such console, who may not", () -> x.waive(1, 6, 0) ? 1 : 0);
        Check.refuses(x, ARGUMENT, "begin, counting", () -> x.begin(-9, 0, 0));
        x.scrub();
        Check.refuses(x, INDEX, "recycle without a count", () -> x.recycle(6));
        LaunchRange y = new LaunchRange();
        for (int i = 0; i < 166; i++) {
            y.pass(600);
        }
        y.pass(400);
        Check.refuses(y, ARGUMENT, "pass behind the last second", () -> y.pass(601));
        Check.refuses(y, STATE, "pass behind the last second", () -> y.pass(600));
    }
}

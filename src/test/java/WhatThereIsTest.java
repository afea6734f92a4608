import java.util.NoSuchElementException;

/** Promises 27 to 33. */
final class WhatThereIsTest {
    private static final Class<IllegalStateException> STATE = IllegalStateException.class;
    private static final Class<NoSuchElementException> NONE = NoSuchElementException.class;

    private WhatThereIsTest() {
    }

    static void run() {
        state();
        count();
        second();
        holds();
        cause();
        causeRule();
        risk();
    }

    private static void state() {
        Check.promise(27);
        LaunchRange x = new LaunchRange();
        Check.sign("no count", x.state(), '-');
        x.pass(1);
        Check.sign("no count later", x.state(), '-');
        x.begin(-10, 0, 5000);
        Check.sign("counting", x.state(), 'c');
        Check.sign("holding", Ranges.held().state(), 'h');
        Check.sign("called off", Ranges.calledOff().state(), 's');
        Check.sign("flying", Ranges.flying().state(), 'f');
        Check.sign("destroyed", Ranges.destroyed().state(), 'x');
        Check.sign("beyond the range", Ranges.beyond().state(), 'o');
    }

    private static void count() {
        Check.promise(28);
        LaunchRange x = new LaunchRange();
        Check.refuses(x, STATE, "count without one", x::count);
        x.begin(-12, 0, 5000);
        Check.same("begun", x.count(), -12);
        x.pass(11);
        Check.same("counted", x.count(), -1);
        x.pass(1);
        Check.same("left", x.count(), 0);
        x.pass(1);
        Check.same("flying", x.count(), 1);
        x.pass(100);
        Check.same("goes on beyond the range", x.count(), 101);
        LaunchRange d = Ranges.destroyed();
        Check.same("destroyed", d.count(), 1);
        d.pass(7);
        Check.same("goes on when destroyed", d.count(), 8);
        LaunchRange s = Ranges.calledOff();
        s.pass(9);
        Check.same("stands when called off", s.count(), -10);
        LaunchRange h = Ranges.held();
        h.pass(9);
        Check.same("stands when held", h.count(), -10);
    }

    private static void second() {
        Check.promise(29);
        LaunchRange x = new LaunchRange();
        Check.same("at first", x.second(), 0);
        x.pass(1);
        Check.same("one later", x.second(), 1);
        x.begin(-10, 0, 5000);
        x.strike(1);
        Check.same("other calls take no time", x.second(), 1);
        x.pass(600);
        Check.same("many later", x.second(), 601);
    }

    private static void holds() {
        Check.promise(30);
        LaunchRange x = new LaunchRange();
        Check.refuses(x, STATE, "holds without a count", x::holds);
        x.addMark(-9, 3, 0);
        x.begin(-10, 16, 100);
        Check.same("begun", x.holds(), 0);
        x.pass(1);
        Check.same("not held", x.holds(), 0);
        x.pass(2);
        Check.same("held in 2 seconds", x.holds(), 2);
        x.pass(2);
        Check.same("held in 3 seconds", x.holds(), 3);
        x.recycle(0);
        x.pass(10);
        Check.same("held again, set back", x.holds(), 6);
        x.pass(10);
        Check.sign("flying", x.state(), 'f');
        Check.same("stands in the flight", x.holds(), 6);
        LaunchRange s = Ranges.calledOff();
        s.pass(5);
        Check.same("stands when called off", s.holds(), 1);
        Check.same("never held", Ranges.beyond().holds(), 0);
    }

    private static void cause() {
        Check.promise(31);
        LaunchRange x = new LaunchRange();
        Check.refuses(x, NONE, "cause without a count", x::cause);
        x.begin(-10, 0, 5000);
        Check.refuses(x, NONE, "cause while counting", x::cause);
        LaunchRange h = Ranges.held();
        Check.sign("held", h.cause(), 'w');
        h.setWind(0);
        Check.sign("held until the next second", h.cause(), 'w');
        h.pass(1);
        Check.refuses(h, NONE, "cause when it goes on", h::cause);
        Check.sign("called off by hand", Ranges.calledOff().cause(), 'c');
        LaunchRange f = Ranges.flying();
        Check.refuses(f, NONE, "cause in the flight", f::cause);
        Check.sign("destroyed", Ranges.destroyed().cause(), 'd');
        LaunchRange b = Ranges.beyond();
        Check.refuses(b, NONE, "cause beyond the range", b::cause);
        causesOfRules();
        causeAfterBeingSetBack();
    }

    private static void causesOfRules() {
        char[] kinds = {'t', 's', 'w', 'l', 'b', 'g'};
        for (char kind : kinds) {
            LaunchRange x = new LaunchRange();
            x.addRule(kind, 0, 1, 1, 0);
            x.addMark(-10, 9, 0);
            x.begin(-10, 0, 10);
            x.pass(1);
            Check.sign("the cause of a rule", x.cause(), kind);
            Check.sign("called off for it", x.state(), 's');
        }
    }

    private static void causeAfterBeingSetBack() {
        LaunchRange x = new LaunchRange();
        x.addMark(-10, 0, 0);
        x.addMark(-9, 5, 0);
        x.begin(-10, 0, 5000);
        x.pass(3);
        Check.sign("held", x.cause(), 'm');
        x.recycle(0);
        Check.refuses(x, NONE, "cause when set back", x::cause);
        x.scrub();
        Check.sign("called off by hand, though held before", x.cause(), 'c');
        x.begin(-10, 0, 5000);
        Check.refuses(x, NONE, "cause when begun anew", x::cause);
    }

    private static void causeRule() {
        Check.promise(32);
        LaunchRange x = new LaunchRange();
        Check.refuses(x, NONE, "causeRule without a count", x::causeRule);
        x.addRule('b', 0, 0, 0, 0);
        x.addRule('g', 2, 1, 1, 0);
        x.begin(-10, 11, 5000);
        Check.refuses(x, NONE, "causeRule while counting", x::causeRule);
        x.pass(1);
        Check.same("held", x.causeRule(), 1);
        x.boat(0, 1, 0);
        x.pass(1);
        Check.same("held for another one", x.causeRule(), 0);
        x.boat(0, 0, 0);
        x.go(2, true);
        x.pass(1);
        Check.refuses(x, NONE, "causeRule when it goes on", x::causeRule);
        x.scrub();
        Check.refuses(x, NONE, "causeRule of a call", x::causeRule);
        LaunchRange m = new LaunchRange();
        m.addMark(-10, 1, 0);
        m.begin(-10, 20, 5000);
        m.pass(1);
        Check.refuses(m, NONE, "causeRule of a mark", m::causeRule);
        m.pass(15);
        Check.sign("held for the window", m.cause(), 'o');
        Check.refuses(m, NONE, "causeRule of the window", m::causeRule);
        LaunchRange d = Ranges.destroyed();
        Check.refuses(d, NONE, "causeRule when destroyed", d::causeRule);
        LaunchRange f = Ranges.flying();
        Check.refuses(f, NONE, "causeRule in the flight", f::causeRule);
        LaunchRange s = new LaunchRange();
        s.addRule('w', 0, 0, 0, 0);
        s.addRule('w', 0, 1, 1, 0);
        s.begin(-10, 0, 11);
        s.pass(1);
        s.setWind(1);
        s.pass(1);
        Check.sign("called off", s.state(), 's');
        Check.same("for the rule for which it was held first", s.causeRule(), 1);
    }

    private static void risk() {
        Check.promise(33);
        LaunchRange x = new LaunchRange();
        Check.same("no boats", x.risk(), 0);
        for (int i = 0; i < 8; i++) {
            x.boat(i, 50, 0);
        }
        Check.same("the greatest risk", x.risk(), 40000);
        for (int i = 0; i < 8; i++) {
            x.boat(i, 1, i + 3);
        }
        Check.same("the sum of 70, 60, .. 10 and 0", x.risk(), 280);
        x.pass(9);
        Check.same("boats stay", x.risk(), 280);
    }
}

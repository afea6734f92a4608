/** Promises 34 to 40. */
final class LogAndFiguresTest {
    private static final Class<IndexOutOfBoundsException> INDEX = IndexOutOfBoundsException.class;
    private static final Class<ArithmeticException> ARITHMETIC = ArithmeticException.class;

    private LogAndFiguresTest() {
    }

    static void run() {
        logLength();
        logAt();
        logTellsEachChange();
        logged();
        checksum();
        metShare();
        meanFill();
        isSound();
    }

    private static void logLength() {
        Check.promise(34);
        LaunchRange x = new LaunchRange();
        Check.same("at first", x.logLength(), 0);
        x.begin(-10, 0, 5000);
        Check.same("begun", x.logLength(), 3);
        x.pass(10);
        Check.same("left in the second 9", x.logLength(), 6);
        x.pass(60);
        Check.same("beyond in the second 69", x.logLength(), 10);
        LaunchRange y = new LaunchRange();
        y.pass(600);
        y.begin(-10, 0, 5000);
        Check.same("begun in the second 600", y.logLength(), 5);
    }

    private static void logAt() {
        Check.promise(35);
        LaunchRange x = new LaunchRange();
        Check.refuses(x, INDEX, "logAt(0) at first", () -> x.logAt(0));
        x.pass(120);
        x.begin(-10, 0, 5000);
        Check.sign("a sign", x.logAt(0), '1');
        Check.sign("a sign", x.logAt(1), '2');
        Check.sign("a sign", x.logAt(2), '0');
        Check.sign("a sign", x.logAt(3), 'C');
        Check.sign("a sign", x.logAt(4), ';');
        for (int w : new int[] {-1, 5, Integer.MIN_VALUE, Integer.MAX_VALUE}) {
            Check.refuses(x, INDEX, "logAt(" + w + ")", () -> x.logAt(w));
        }
    }

    private static void logTellsEachChange() {
        LaunchRange x = new LaunchRange();
        x.addRule('w', 0, 0, 10, 0);
        x.addMark(-9, 0, 0);
        x.pass(2);
        x.begin(-10, 15, 5000);
        x.setWind(11);
        x.pass(3);
        x.setWind(0);
        x.pass(4);
        x.recycle(0);
        x.setWind(11);
        x.pass(1);
        x.setWind(0);
        x.pass(3);
        x.recycle(0);
        x.scrub();
        x.begin(-10, 0, 5000);
        x.pass(11);
        x.track(0, 21);
        x.pass(3);
        Check.text("each change of the state", Look.log(x), "2C;2H;5G;9R;9H;10G;13R;13S;13C;22F;26X;");
        Check.text("a log goes on for a hold as at first", Look.log(Ranges.held()), "0C;0H;");
        Check.text("beyond", Look.log(Ranges.beyond()), "0C;9F;69O;");
    }

    private static void logged() {
        Check.promise(36);
        LaunchRange x = new LaunchRange();
        Check.same("nothing at first", x.logged('C'), 0);
        x.pass(11);
        x.begin(-10, 0, 5000);
        x.scrub();
        x.pass(1);
        x.begin(-10, 0, 5000);
        Check.text("the log", Look.log(x), "11C;11S;12C;");
        Check.same("C", x.logged('C'), 2);
        Check.same("S", x.logged('S'), 1);
        Check.same("F", x.logged('F'), 0);
        Check.same("c", x.logged('c'), 0);
        Check.same(";", x.logged(';'), 3);
        Check.same("1", x.logged('1'), 5);
        Check.same("2", x.logged('2'), 1);
        Check.same("the sign 0", x.logged((char) 0), 0);
        Check.same("the sign 65535", x.logged((char) 65535), 0);
    }

    private static long sumOf(long... parts) {
        long sum = 7;
        for (long part : parts) {
            sum = 31 * sum + part;
        }
        return sum;
    }

    private static void checksum() {
        Check.promise(37);
        LaunchRange x = new LaunchRange();
        Check.same("at first", x.checksum(), sumOf(0, 0, 0, 0, 0, 0));
        x.setTank(0, 100, 1, 0);
        x.setTank(1, 100, 2, 0);
        x.setTank(2, 100, 3, 0);
        for (int i = 0; i < 3; i++) {
            x.setValve(i, true);
        }
        x.addRule('w', 0, 0, 0, 0);
        x.pass(3);
        x.addRule('w', 0, 0, 0, 9);
        x.addRule('w', 0, 1, 1, 0);
        x.pass(2);
        Check.same("without a count", x.checksum(), sumOf(5, 0, 5, 10, 15, 5, 2, 0, 0));
        x.begin(-10, 0, 5000);
        Check.same("with a count", x.checksum(), sumOf(5, -10, 5, 10, 15, 5, 2, 0, 3));
        x.scrub();
        Check.same("called off", x.checksum(), sumOf(5, -10, 5, 10, 15, 5, 2, 0, 6));
        LaunchRange d = Ranges.destroyed();
        d.pass(3);
        Check.same("destroyed", d.checksum(), sumOf(14, 4, 0, 0, 0, 10));
        LaunchRange y = new LaunchRange();
        for (int i = 0; i < 12; i++) {
            y.addRule('w', 0, 0, 0, 0);
        }
        y.pass(600);
        Check.same("wraps around", y.checksum(), sumOf(600, 0, 0, 0, 0, 600, 600, 600, 600, 600, 600, 600, 600, 600,
                600, 600, 600, 0));
    }

    private static void metShare() {
        Check.promise(38);
        LaunchRange x = new LaunchRange();
        Check.refuses(x, ARITHMETIC, "metShare without rules", () -> (long) x.metShare());
        x.addRule('w', 0, 1, 1, 0);
        Check.real("none of one", x.metShare(), 0.0f);
        x.addRule('w', 0, 0, 0, 0);
        Check.real("one of two", x.metShare(), 0.5f);
        x.addRule('b', 0, 0, 0, 5);
        Check.real("one of three", x.metShare(), 1.0f / 3.0f);
        x.pass(5);
        Check.real("two of three", x.metShare(), 2.0f / 3.0f);
        x.begin(-10, 0, 5000);
        x.mayWaive(0, 0);
        x.waive(0, 0, -10);
        Check.real("all, one waived", x.metShare(), 1.0f);
        x.boat(0, 1, 1);
        Check.real("as it is now", x.metShare(), 2.0f / 3.0f);
        x.waive(0, 0, -11);
        Check.real("waived no more", x.metShare(), 1.0f / 3.0f);
    }

    private static void meanFill() {
        Check.promise(39);
        LaunchRange x = new LaunchRange();
        Check.refuses(x, ARITHMETIC, "meanFill without room", () -> (long) x.meanFill());
        x.setTank(1, 3, 1, 0);
        Check.real("an empty tank", x.meanFill(), 0.0);
        x.setValve(1, true);
        x.pass(1);
        Check.real("a third", x.meanFill(), 1.0 / 3.0);
        x.setTank(2, 7, 2, 0);
        x.setValve(2, true);
        x.pass(1);
        Check.real("two tanks", x.meanFill(), (2.0 / 3.0 + 2.0 / 7.0) / 2.0);
        x.setTank(0, 11, 0, 0);
        Check.real("three tanks", x.meanFill(), (0.0 + 2.0 / 3.0 + 2.0 / 7.0) / 3.0);
        x.setTank(1, 0, 0, 0);
        Check.real("one without room", x.meanFill(), (0.0 + 2.0 / 7.0) / 2.0);
        x.setTank(0, 1, 1, 0);
        x.setValve(0, true);
        x.pass(1);
        Check.real("a tank with room for 1", x.meanFill(), (1.0 + 4.0 / 7.0) / 2.0);
        x.setTank(0, 0, 0, 0);
        x.setTank(2, 0, 0, 0);
        Check.refuses(x, ARITHMETIC, "meanFill without room again", () -> (long) x.meanFill());
    }

    private static void isSound() {
        Check.promise(40);
        Check.is("a new one", new LaunchRange().isSound(), true);
        Check.is("held", Ranges.held().isSound(), true);
        Check.is("called off", Ranges.calledOff().isSound(), true);
        Check.is("flying", Ranges.flying().isSound(), true);
        Check.is("destroyed", Ranges.destroyed().isSound(), true);
        Check.is("beyond", Ranges.beyond().isSound(), true);
        LaunchRange x = new LaunchRange();
        x.addRule('g', 0, 1, 1, 0);
        x.setTank(0, 10, 10, 0);
        x.setValve(0, true);
        x.addMark(-9, 0, 0);
        x.begin(-10, 0, 5000);
        x.mayWaive(0, 1);
        x.waive(0, 1, 0);
        x.pass(5);
        Check.is("counting", x.isSound(), true);
        x.recycle(0);
        Check.is("set back", x.isSound(), true);
        x.setTank(0, 1, 0, 0);
        Check.is("with less room", x.isSound(), true);
        x.go(0, true);
        x.pass(9);
        Check.sign("left", x.state(), 'f');
        x.go(0, false);
        x.addRule('w', 0, 1, 1, 300);
        Check.is("what came behind the leaving does not count", x.isSound(), true);
    }
}

import java.math.BigInteger;
import java.util.NoSuchElementException;

/** The edges that promises 27 to 40 name, a test each. */
final class EdgesOfFiguresTest {
    private static final Class<IllegalStateException> STATE = IllegalStateException.class;
    private static final Class<IndexOutOfBoundsException> INDEX = IndexOutOfBoundsException.class;
    private static final Class<NoSuchElementException> NONE = NoSuchElementException.class;
    private static final Class<ArithmeticException> ARITHMETIC = ArithmeticException.class;

    private EdgesOfFiguresTest() {
    }

    static void run() {
        whatThereIs();
        causes();
        log();
        checksum();
        shares();
        isSound();
    }

    private static LaunchRange counting() {
        LaunchRange x = new LaunchRange();
        x.begin(-10, 0, 5000);
        x.pass(1);
        return x;
    }

    private static LaunchRange[] eachState() {
        return new LaunchRange[] {new LaunchRange(), counting(), Ranges.held(), Ranges.calledOff(), Ranges.flying(),
            Ranges.destroyed(), Ranges.beyond()};
    }

    private static void whatThereIs() {
        Edges.test(27, "Returns '-' no count, 'c' counting, 'h' holding, 's' called off, 'f' flying, 'x' destroyed,"
                + " 'o' beyond the range.", () -> {
                    StringBuilder states = new StringBuilder();
                    for (LaunchRange x : eachState()) {
                        states.append(x.state());
                    }
                    Check.text("each state", states.toString(), "-chsfxo");
                });
        Edges.test(28, "the seconds since it left go on when it was destroyed or is beyond the range.",
                EdgesOfFiguresTest::countGoesOn);
        Edges.test(28, "if no count was begun", () -> {
            LaunchRange x = new LaunchRange();
            Check.refuses(x, STATE, "a new range", x::count);
            x.pass(600);
            x.scrub();
            Check.refuses(x, STATE, "long after", x::count);
            x.begin(-600, 0, 5000);
            Check.same("begun", x.count(), -600);
            x.scrub();
            Check.same("called off", x.count(), -600);
        });
        Edges.test(29, "Returns the second, 0 at first.", () -> {
            LaunchRange x = new LaunchRange();
            Check.same("at first", x.second(), 0);
            for (int i = 1; i <= 166; i++) {
                x.pass(600);
                Check.same("later", x.second(), 600 * i);
            }
            x.pass(400);
            Check.same("the last one", x.second(), 100000);
        });
        Edges.test(30, "if no count was begun", () -> {
            LaunchRange x = new LaunchRange();
            Check.refuses(x, STATE, "a new range", x::holds);
            x.pass(600);
            Check.refuses(x, STATE, "long after", x::holds);
            x.begin(-10, 0, 5000);
            Check.same("begun", x.holds(), 0);
            x.scrub();
            Check.same("called off", x.holds(), 0);
        });
        Edges.test(30, "Returns the number of seconds.", () -> {
            LaunchRange x = new LaunchRange();
            x.addRule('w', 0, 1, 1, 0);
            x.begin(-10, 0, 5000);
            for (int i = 1; i <= 8; i++) {
                x.pass(600);
                Check.same("held all the time", x.holds(), 600 * i);
            }
            x.pass(600);
            Check.sign("called off", x.state(), 's');
            Check.same("held until it was", x.holds(), 4991);
        });
        Edges.test(33, "Returns the sum of the people times 100 less 10 for each of the distance, at least 0, each.",
                EdgesOfFiguresTest::riskAtLeast0);
    }

    private static void countGoesOn() {
        LaunchRange d = Ranges.destroyed();
        LaunchRange b = Ranges.beyond();
        Check.same("destroyed", d.count(), 1);
        Check.same("beyond", b.count(), 60);
        for (int i = 1; i <= 100; i++) {
            d.pass(600);
            b.pass(600);
            Check.same("destroyed, later", d.count(), 1 + 600 * i);
            Check.same("beyond, later", b.count(), 60 + 600 * i);
        }
        LaunchRange x = new LaunchRange();
        for (int i = 0; i < 166; i++) {
            x.pass(600);
        }
        x.pass(390);
        x.begin(-10, 0, 10);
        x.pass(10);
        Check.same("left as the last second came", x.count(), 0);
    }

    private static void riskAtLeast0() {
        for (int distance = 0; distance < 100; distance++) {
            LaunchRange x = new LaunchRange();
            x.boat(0, 50, distance);
            x.boat(7, 1, 9);
            Check.same("at " + distance, x.risk(), 10 + (distance < 10 ? 5000 - 500 * distance : 0));
        }
        LaunchRange y = new LaunchRange();
        Check.same("no boats", y.risk(), 0);
        for (int i = 0; i < 8; i++) {
            y.boat(i, 50, 0);
        }
        Check.same("the greatest", y.risk(), 40000);
        for (int i = 0; i < 8; i++) {
            y.boat(i, 50, 99);
        }
        Check.same("all far away", y.risk(), 0);
    }

    private static void causes() {
        Edges.test(31, "if it is not held, called off or destroyed", () -> {
            for (LaunchRange x : eachState()) {
                if ("hsx".indexOf(x.state()) < 0) {
                    Check.refuses(x, NONE, "in the state " + x.state(), x::cause);
                } else {
                    Check.takes("in the state " + x.state(), x::cause);
                }
            }
            LaunchRange on = Ranges.held();
            on.setWind(0);
            on.pass(1);
            Check.refuses(on, NONE, "held no more", on::cause);
            on.scrub();
            on.begin(-10, 0, 5000);
            Check.refuses(on, NONE, "called off, and begun again", on::cause);
            LaunchRange back = Ranges.held();
            back.scrub();
            back.addMark(-600, 0, 0);
            back.begin(-10, 0, 5000);
            back.pass(1);
            back.recycle(0);
            Check.refuses(back, NONE, "held, and set back", back::cause);
            LaunchRange left = Ranges.held();
            left.setWind(0);
            left.pass(10);
            Check.refuses(left, NONE, "held, and left", left::cause);
        });
        Edges.test(32, "if there is no such cause, or it is no rule", () -> {
            for (LaunchRange x : eachState()) {
                if (x.state() != 'h') {
                    Check.refuses(x, NONE, "in the state " + x.state(), x::causeRule);
                }
            }
            Check.same("held for a rule", Ranges.held().causeRule(), 0);
            LaunchRange mark = new LaunchRange();
            mark.addRule('w', 0, 0, 10, 0);
            mark.addMark(-10, 1, 0);
            mark.begin(-10, 20, 5000);
            mark.pass(1);
            Check.refuses(mark, NONE, "held for a mark", mark::causeRule);
            mark.pass(10);
            Check.sign("held for the window", mark.cause(), 'o');
            Check.refuses(mark, NONE, "held for the window", mark::causeRule);
            mark.setWind(11);
            mark.pass(1);
            Check.same("held for a rule then", mark.causeRule(), 0);
            mark.scrub();
            Check.refuses(mark, NONE, "called off by hand then", mark::causeRule);
        });
        Edges.test(32, "Returns its number.", () -> {
            for (int number = 0; number < 12; number++) {
                LaunchRange x = new LaunchRange();
                for (int i = 0; i < 12; i++) {
                    x.addRule('w', 0, i == number ? 1 : 0, 1, 0);
                }
                x.begin(-10, 0, 10);
                x.pass(1);
                Check.sign("called off for it", x.state(), 's');
                Check.same("its number", x.causeRule(), number);
            }
        });
    }

    private static void log() {
        Edges.test(34, "Returns the number of signs.", () -> {
            LaunchRange x = new LaunchRange();
            Check.same("empty", x.logLength(), 0);
            int[] seconds = {0, 9, 10, 99, 100, 999, 1000, 9999, 10000, 99999, 100000};
            int length = 0;
            for (int second : seconds) {
                while (x.second() < second) {
                    x.pass(Math.min(600, second - x.second()));
                }
                x.begin(-10, 0, 5000);
                x.scrub();
                length += 2 * (("" + second).length() + 2);
                Check.same("two changes more", x.logLength(), length);
            }
        });
        Edges.test(35, "`index`: the index, from 0", () -> {
            LaunchRange x = new LaunchRange();
            x.pass(600);
            x.begin(-10, 0, 5000);
            char[] due = {'6', '0', '0', 'C', ';'};
            for (int i = 0; i < due.length; i++) {
                Check.sign("the sign " + i, x.logAt(i), due[i]);
            }
        });
        Edges.test(35, "if there is no such sign", () -> {
            LaunchRange x = new LaunchRange();
            for (int n : new int[] {-1, 0, 1, Integer.MIN_VALUE, Integer.MAX_VALUE}) {
                Check.refuses(x, INDEX, "the sign " + n + " of none", () -> x.logAt(n));
            }
            x.begin(-10, 0, 5000);
            for (int n : new int[] {-1, 3, 4, 256, 65536, Integer.MIN_VALUE, Integer.MAX_VALUE}) {
                Check.refuses(x, INDEX, "the sign " + n + " of 3", () -> x.logAt(n));
            }
        });
        Edges.test(36, "Returns the number of times.", () -> {
            LaunchRange none = new LaunchRange();
            for (char letter : "CHGRSFXO;0".toCharArray()) {
                Check.same("in an empty log", none.logged(letter), 0);
            }
            LaunchRange x = new LaunchRange();
            for (int i = 1; i <= 200; i++) {
                x.begin(-10, 0, 5000);
                x.scrub();
                Check.same("C", x.logged('C'), i);
                Check.same("S", x.logged('S'), i);
                Check.same(";", x.logged(';'), 2 * i);
            }
            Check.same("another letter", x.logged('F'), 0);
            Check.same("a small letter", x.logged('c'), 0);
            Check.same("the least", x.logged((char) 0), 0);
            Check.same("the greatest", x.logged((char) 65535), 0);
            Check.same("one that is a C but for its upper half", x.logged((char) ('C' + 256)), 0);
        });
    }

    private static long due(LaunchRange x, int count, int rules) {
        BigInteger sum = BigInteger.valueOf(7);
        long[] parts = new long[6 + rules];
        parts[0] = x.second();
        parts[1] = count;
        for (int i = 0; i < 3; i++) {
            parts[2 + i] = x.inTank(i);
        }
        for (int i = 0; i < rules; i++) {
            parts[5 + i] = x.holdsFor(i);
        }
        parts[5 + rules] = x.logLength();
        for (long part : parts) {
            sum = sum.multiply(BigInteger.valueOf(31)).add(BigInteger.valueOf(part));
        }
        return sum.longValue();
    }

    private static void checksum() {
        Edges.test(37, "Returns 7 at first, then 31 times itself plus each one of", () -> {
            for (int rules = 0; rules <= 12; rules++) {
                LaunchRange x = new LaunchRange();
                for (int i = 0; i < 3; i++) {
                    x.setTank(i, 100000, 997 + i, 0);
                    x.setValve(i, true);
                }
                for (int i = 0; i < rules; i++) {
                    x.addRule('w', 0, 0, 0, 0);
                    x.pass(97);
                }
                Check.same("ahead of a count", x.checksum(), due(x, 0, rules));
                x.begin(-600, 0, 5000);
                x.pass(7);
                Check.same("in a count, with so many rules that it wraps around", x.checksum(), due(x, -593, rules));
            }
        });
        Edges.test(37, "the count, 0 without one", () -> {
            LaunchRange x = new LaunchRange();
            Check.same("without one", x.checksum(), due(x, 0, 0));
            x.begin(-600, 0, 5000);
            Check.same("with one", x.checksum(), due(x, -600, 0));
            x.pass(600);
            Check.same("left", x.checksum(), due(x, 0, 0));
            x.pass(9);
            Check.same("flying", x.checksum(), due(x, 9, 0));
            LaunchRange d = Ranges.destroyed();
            d.pass(5);
            Check.same("destroyed", d.checksum(), due(d, 6, 0));
            LaunchRange b = Ranges.beyond();
            b.pass(5);
            Check.same("beyond", b.checksum(), due(b, 65, 0));
        });
    }

    private static void shares() {
        Edges.test(38, "Returns their number divided by that of all, both converted to float.", () -> {
            for (int rules = 1; rules <= 12; rules++) {
                for (int met = 0; met <= rules; met++) {
                    LaunchRange x = new LaunchRange();
                    for (int i = 0; i < rules; i++) {
                        x.addRule('w', 0, i < met ? 0 : 1, 1, 0);
                    }
                    Check.real(met + " of " + rules, x.metShare(), (float) met / (float) rules);
                }
            }
        });
        Edges.test(38, "if there are none", () -> {
            LaunchRange x = new LaunchRange();
            Check.refuses(x, ARITHMETIC, "no rules", () -> (long) x.metShare());
            LaunchRange y = Ranges.beyond();
            Check.refuses(y, ARITHMETIC, "no rules, beyond the range", () -> (long) y.metShare());
            y.addRule('w', 0, 1, 1, 0);
            Check.real("one, not met", y.metShare(), 0.0f);
        });
        Edges.test(39, "Returns the sum of the shares, each as both converted to double, divided by their number.",
                EdgesOfFiguresTest::sumsOfShares);
        Edges.test(39, "if none has", () -> {
            LaunchRange x = new LaunchRange();
            Check.refuses(x, ARITHMETIC, "no tank", () -> (long) x.meanFill());
            for (int i = 0; i < 3; i++) {
                x.setTank(i, 0, 1000, 0);
                x.setValve(i, true);
            }
            x.pass(1);
            Check.refuses(x, ARITHMETIC, "tanks without room", () -> (long) x.meanFill());
            for (int i = 0; i < 3; i++) {
                x.setTank(i, 1, 1, 0);
                Check.real("one with room for 1", x.meanFill(), 0.0);
                x.pass(1);
                Check.real("a full one", x.meanFill(), 1.0);
                x.setTank(i, 0, 1, 0);
                Check.refuses(x, ARITHMETIC, "none again", () -> (long) x.meanFill());
            }
        });
    }

    private static void sumsOfShares() {
        int[][] rooms = {{3, 7, 11}, {100000, 99999, 1}, {10, 3, 0}, {0, 49, 6}, {7, 0, 0}, {0, 0, 100000}};
        for (int[] room : rooms) {
            LaunchRange x = new LaunchRange();
            for (int i = 0; i < 3; i++) {
                x.setTank(i, room[i], 1 + i, 0);
                x.setValve(i, true);
            }
            for (int second = 0; second < 5; second++) {
                double sum = 0.0;
                int number = 0;
                for (int i = 0; i < 3; i++) {
                    sum += room[i] == 0 ? 0.0 : (double) Math.min(room[i], second * (1 + i)) / (double) room[i];
                    number += room[i] == 0 ? 0 : 1;
                }
                Check.real("in the second " + second, x.meanFill(), sum / (double) number);
                x.pass(1);
            }
        }
    }

    private static void isSound() {
        Edges.test(40, "the rocket left only if each rule was met or waived by one who might, in the second ahead",
                EdgesOfFiguresTest::leftByItsRules);
        Edges.test(40, "and in its window", () -> {
            int[][] windows = {{0, 10}, {10, 10}, {10, 5000}, {12, 12}, {5000, 5000}};
            for (int[] w : windows) {
                LaunchRange x = new LaunchRange();
                x.pass(50);
                x.begin(-10, w[0], w[1]);
                while (x.state() != 'f' && x.second() < 5100) {
                    x.pass(1);
                }
                Check.sign("left", x.state(), 'f');
                Check.is("at an end of its window", x.isSound(), true);
                x.pass(600);
                Check.is("long behind its window", x.isSound(), true);
            }
        });
        Edges.test(40, "tanks have at most their room", () -> {
            LaunchRange x = new LaunchRange();
            for (int room = 100; room >= 0; room--) {
                x.setTank(2, room, 7, 3);
                x.setValve(2, true);
                Check.is("less room", x.isSound(), true);
                x.pass(1);
                Check.is("filled", x.isSound(), true);
            }
        });
        Edges.test(40, "and the log tells each change of the state", () -> {
            for (LaunchRange x : eachState()) {
                Check.is("in the state " + x.state(), x.isSound(), true);
                x.pass(1);
                Check.is("a second later", x.isSound(), true);
            }
        });
    }

    private static void leftByItsRules() {
        LaunchRange x = new LaunchRange();
        x.addRule('w', 0, 0, 10, 10);
        x.addRule('w', 0, 20, 30, 0);
        x.mayWaive(1, 2);
        x.begin(-10, 0, 5000);
        x.waive(1, 2, -1);
        x.pass(19);
        Check.sign("left", x.state(), 'f');
        Check.is("met, and waived just up to -1", x.isSound(), true);
        x.setWind(11);
        x.pass(1);
        Check.is("met no more in the flight", x.isSound(), true);
        x.pass(100);
        Check.is("met no more beyond the range", x.isSound(), true);
    }
}

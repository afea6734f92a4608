import java.util.ArrayList;
import java.util.Arrays;
import java.util.List;
import java.util.NoSuchElementException;

/**
 * The document written down once more, sentence by sentence. It keeps all that has happened and searches it for each
 * answer, where the program keeps sums, so that both seldom slip alike; what is unclear it reads as the program does.
 */
public final class PlainRange {
    private static final String NEVER = "";

    private record Tank(int room, int rate, int boil) {
    }

    private record Step(int from, int seconds, List<Integer> behind) {
    }

    private record Mark(int count, int seconds, int steps) {
    }

    private record Rule(char kind, int about, int least, int greatest, int seconds) {
    }

    private record Boat(int people, int distance) {
    }

    private record Waiver(int rule, int until) {
    }

    private record Hold(char cause, int rule) {
    }

    private final Tank[] tanks = {new Tank(0, 0, 0), new Tank(0, 0, 0), new Tank(0, 0, 0)};
    private final int[] filled = new int[3];
    private final boolean[] isValveOpen = new boolean[3];
    private final List<Step> steps = new ArrayList<>();
    private final Integer[] ranFrom = new Integer[16];
    private final List<Mark> marks = new ArrayList<>();
    private final int[] measured = new int[9];
    private final List<Integer> leftOut = new ArrayList<>();
    private int wind = 0;
    private final List<Integer> nearLightnings = new ArrayList<>();
    private final Boat[] boats = new Boat[8];
    private final List<Rule> rules = new ArrayList<>();
    private final List<List<Boolean>> looks = new ArrayList<>();
    private final List<List<Integer>> mayWaive = new ArrayList<>();
    private final List<Waiver> waivers = new ArrayList<>();
    private final List<Integer> sayGo = new ArrayList<>();
    private final int[] seenOff = new int[2];
    private final List<Boolean> disagreed = new ArrayList<>();
    private final List<Hold> holdsOfCount = new ArrayList<>();
    private int holdsAhead = 0;
    private String log = NEVER;
    private int secondsOfCount = 0;
    private int second = 0;
    private int count = 0;
    private int opens = 0;
    private int shuts = 0;
    private char state = '-';
    private Hold cause = null;

    public PlainRange() {
        Arrays.fill(boats, new Boat(0, 0));
    }

    private static boolean isOut(int number, int least, int greatest) {
        return number < least || number > greatest;
    }

    private static void argument(boolean isWrong) {
        if (isWrong) {
            throw new IllegalArgumentException();
        }
    }

    private static void index(boolean isWrong) {
        if (isWrong) {
            throw new IndexOutOfBoundsException();
        }
    }

    private static void state(boolean isWrong) {
        if (isWrong) {
            throw new IllegalStateException();
        }
    }

    private static void unsupported(boolean isWrong) {
        if (isWrong) {
            throw new UnsupportedOperationException();
        }
    }

    private boolean goesOn() {
        return state == 'c' || state == 'h';
    }

    private boolean hasLeft() {
        return log.contains("F;");
    }

    private void change(char letter, char next) {
        log = log + second + letter + ";";
        state = next;
    }

    public int setTank(int tank, int room, int rate, int boil) {
        argument(isOut(tank, 0, 2));
        argument(isOut(room, 0, 100000) || isOut(rate, 0, 1000) || isOut(boil, 0, 100));
        tanks[tank] = new Tank(room, rate, boil);
        if (filled[tank] > room) {
            filled[tank] = room;
        }
        return filled[tank];
    }

    public boolean setValve(int tank, boolean isOpen) {
        argument(isOut(tank, 0, 2));
        boolean wasOpen = isValveOpen[tank];
        isValveOpen[tank] = isOpen;
        return wasOpen;
    }

    public int drain(int tank, int amount) {
        argument(isOut(tank, 0, 2) || isOut(amount, 1, 100000));
        int goes = amount > filled[tank] ? filled[tank] : amount;
        filled[tank] = filled[tank] - goes;
        return goes;
    }

    public int inTank(int tank) {
        argument(isOut(tank, 0, 2));
        return filled[tank];
    }

    public int addStep(int from, int seconds) {
        argument(isOut(from, -600, -1) || isOut(seconds, 1, 300));
        state(steps.size() == 16 || goesOn() || hasLeft());
        steps.add(new Step(from, seconds, new ArrayList<>()));
        return steps.size() - 1;
    }

    public int setAfter(int step, int other) {
        index(isOut(step, 0, steps.size() - 1) || isOut(other, 0, steps.size() - 1));
        argument(!(other < step));
        state(goesOn() || hasLeft());
        List<Integer> behind = steps.get(step).behind();
        if (!behind.contains(other)) {
            behind.add(other);
        }
        return behind.size();
    }

    public char stepState(int step) {
        index(isOut(step, 0, steps.size() - 1));
        if (ranFrom[step] == null) {
            return '-';
        }
        return secondsOfCount - ranFrom[step] < steps.get(step).seconds() ? 'r' : 'e';
    }

    public int addMark(int count, int seconds, int steps) {
        argument(isOut(count, -600, -1) || isOut(seconds, 0, 300));
        for (Mark mark : marks) {
            argument(mark.count() == count);
        }
        for (int power = 0; power < 32; power++) {
            unsupported(isIn(power, steps) && power >= this.steps.size());
        }
        state(marks.size() == 6 || goesOn() || hasLeft());
        marks.add(new Mark(count, seconds, steps));
        marks.sort((a, b) -> Integer.compare(a.count(), b.count()));
        return marks.size();
    }

    private static boolean isIn(int power, int sum) {
        long rest = sum & 0xFFFFFFFFL;
        for (int i = 0; i < power; i++) {
            rest = rest / 2;
        }
        return rest % 2 == 1;
    }

    private int tellTogether(int measure) {
        List<Integer> told = new ArrayList<>();
        for (int sensor = measure * 3; sensor <= measure * 3 + 2; sensor++) {
            if (!leftOut.contains(sensor)) {
                told.add(measured[sensor]);
            }
        }
        told.sort(null);
        if (told.size() == 3) {
            return told.get(1);
        }
        return told.size() == 2 ? (told.get(0) + told.get(1)) / 2 : told.get(0);
    }

    public int sense(int sensor, int value) {
        argument(isOut(sensor, 0, 8) || isOut(value, -9999, 9999));
        measured[sensor] = value;
        return tellTogether(sensor / 3);
    }

    public int inhibit(int sensor, boolean is) {
        argument(isOut(sensor, 0, 8));
        List<Integer> then = new ArrayList<>(leftOut);
        then.remove((Object) sensor);
        if (is) {
            then.add(sensor);
        }
        int counting = 0;
        for (int one = sensor / 3 * 3; one <= sensor / 3 * 3 + 2; one++) {
            counting = then.contains(one) ? counting : counting + 1;
        }
        unsupported(counting == 0);
        leftOut.clear();
        leftOut.addAll(then);
        return counting;
    }

    public int setWind(int wind) {
        argument(isOut(wind, 0, 200));
        int before = this.wind;
        this.wind = wind;
        return before;
    }

    private int near() {
        int near = 0;
        for (int struck : nearLightnings) {
            if (struck >= second - 599 && struck <= second) {
                near++;
            }
        }
        return near;
    }

    public int strike(int distance) {
        argument(isOut(distance, 0, 99));
        if (distance <= 20) {
            nearLightnings.add(second);
        }
        return near();
    }

    public int boat(int boat, int people, int distance) {
        argument(isOut(boat, 0, 7) || isOut(people, 0, 50) || isOut(distance, 0, 99));
        boats[boat] = new Boat(people, distance);
        return risk();
    }

    public int risk() {
        int sum = 0;
        for (Boat boat : boats) {
            int each = 100 - 10 * boat.distance();
            sum = sum + (each < 0 ? 0 : boat.people() * each);
        }
        return sum;
    }

    public int addRule(char kind, int about, int least, int greatest, int seconds) {
        switch (kind) {
            case 't': case 's': argument(isOut(about, 0, 2)); break;
            case 'g': argument(isOut(about, 0, 5)); break;
            case 'w': case 'l': case 'b': break;
            default: argument(true);
        }
        argument(least > greatest || isOut(seconds, 0, 300));
        state(rules.size() == 12);
        rules.add(new Rule(kind, about, least, greatest, seconds));
        looks.add(new ArrayList<>());
        mayWaive.add(new ArrayList<>());
        return rules.size() - 1;
    }

    public boolean mayWaive(int rule, int console) {
        index(isOut(rule, 0, rules.size() - 1));
        argument(isOut(console, 0, 5));
        boolean could = mayWaive.get(rule).contains(console);
        mayWaive.get(rule).add(console);
        return !could;
    }

    public boolean waive(int rule, int console, int until) {
        index(isOut(rule, 0, rules.size() - 1));
        argument(isOut(console, 0, 5) || isOut(until, -600, 0));
        unsupported(!mayWaive.get(rule).contains(console));
        boolean was = isWaived(rule);
        waivers.add(new Waiver(rule, until));
        return was;
    }

    private boolean isWaived(int rule) {
        boolean is = false;
        for (Waiver waiver : waivers) {
            if (waiver.rule() == rule) {
                is = state != '-' && count <= waiver.until();
            }
        }
        return is;
    }

    public boolean go(int console, boolean is) {
        argument(isOut(console, 0, 5));
        boolean said = sayGo.contains(console);
        sayGo.removeIf(one -> one == console);
        if (is) {
            sayGo.add(console);
        }
        return said;
    }

    public int value(int rule) {
        index(isOut(rule, 0, rules.size() - 1));
        int about = rules.get(rule).about();
        switch (rules.get(rule).kind()) {
            case 't': return filled[about];
            case 's': return tellTogether(about);
            case 'w': return wind;
            case 'l': return near();
            case 'b': return risk();
            default: return sayGo.contains(about) ? 1 : 0;
        }
    }

    private boolean holdsNow(int rule) {
        return value(rule) >= rules.get(rule).least() && value(rule) <= rules.get(rule).greatest();
    }

    public int holdsFor(int rule) {
        index(isOut(rule, 0, rules.size() - 1));
        List<Boolean> all = looks.get(rule);
        return all.size() - 1 - all.lastIndexOf(false);
    }

    public boolean isMet(int rule) {
        index(isOut(rule, 0, rules.size() - 1));
        return holdsNow(rule) && holdsFor(rule) >= rules.get(rule).seconds() || isWaived(rule);
    }

    public int begin(int count, int open, int shut) {
        argument(isOut(count, -600, -10) || isOut(open, 0, 5000) || isOut(shut, 0, 5000) || shut < open);
        state(goesOn() || hasLeft());
        this.count = count;
        opens = second + open;
        shuts = second + shut;
        holdsOfCount.clear();
        holdsAhead = 0;
        Arrays.fill(ranFrom, null);
        waivers.clear();
        change('C', 'c');
        return second + -count;
    }

    public int recycle(int mark) {
        index(isOut(mark, 0, marks.size() - 1));
        unsupported(!goesOn() || !(count > marks.get(mark).count()));
        count = marks.get(mark).count();
        holdsAhead = holdsOfCount.size();
        int again = 0;
        for (int step = 0; step < steps.size(); step++) {
            if (steps.get(step).from() >= count) {
                again = stepState(step) == '-' ? again : again + 1;
                ranFrom[step] = null;
            }
        }
        waivers.clear();
        change('R', 'c');
        return again;
    }

    public boolean scrub() {
        boolean went = goesOn();
        if (went) {
            cause = new Hold('c', -1);
            change('S', 's');
        }
        return went;
    }

    public int pass(int seconds) {
        argument(isOut(seconds, 1, 600));
        state(second + seconds > 100000);
        for (int i = 0; i < seconds; i++) {
            goThrough();
            second = second + 1;
        }
        return second;
    }

    private void goThrough() {
        boolean wasInFlight = hasLeft();
        for (int tank = 0; tank < 3; tank++) {
            filled[tank] = filled[tank] - filled[tank] * tanks[tank].boil() / 1000;
            int comesIn = isValveOpen[tank] ? tanks[tank].rate() : 0;
            int place = tanks[tank].room() - filled[tank];
            filled[tank] = filled[tank] + (comesIn > place ? place : comesIn);
        }
        if (goesOn()) {
            secondsOfCount = secondsOfCount + 1;
            letStepsRun();
        }
        for (int rule = 0; rule < rules.size(); rule++) {
            looks.get(rule).add(holdsNow(rule));
        }
        if (goesOn()) {
            goOnCounting();
        }
        if (wasInFlight) {
            fly();
        }
    }

    private void letStepsRun() {
        for (int step = 0; step < steps.size(); step++) {
            boolean mayRun = ranFrom[step] == null && steps.get(step).from() <= count;
            for (int other : steps.get(step).behind()) {
                mayRun = mayRun && stepState(other) == 'e';
            }
            ranFrom[step] = mayRun ? (Integer) secondsOfCount : ranFrom[step];
        }
    }

    private Hold whyHeld() {
        for (int rule = 0; rule < rules.size(); rule++) {
            if (!isMet(rule)) {
                return new Hold(rules.get(rule).kind(), rule);
            }
        }
        for (Mark mark : marks) {
            boolean isLong = holdsOfCount.size() - holdsAhead >= mark.seconds();
            if (mark.count() == count && !(isLong && areDone(mark.steps()))) {
                return new Hold('m', -1);
            }
        }
        return count == -1 && second + 1 < opens ? new Hold('o', -1) : null;
    }

    private boolean areDone(int sum) {
        boolean are = true;
        for (int step = 0; step < steps.size(); step++) {
            are = are && (!isIn(step, sum) || stepState(step) == 'e');
        }
        return are;
    }

    private void goOnCounting() {
        Hold why = whyHeld();
        if (why != null) {
            holdsOfCount.add(why);
            cause = why;
            if (state == 'c') {
                change('H', 'h');
            }
        } else {
            if (state == 'h') {
                change('G', 'c');
            }
            count = count + 1;
            holdsAhead = holdsOfCount.size();
        }
        int next = second + 1;
        if (count == 0 && next >= opens && next <= shuts) {
            change('F', 'f');
        } else if (next - count > shuts) {
            cause = holdsOfCount.isEmpty() ? new Hold('o', -1) : holdsOfCount.get(0);
            change('S', 's');
        }
    }

    private void fly() {
        count = count + 1;
        int last = disagreed.size();
        disagreed.add(Math.abs(seenOff[0] - seenOff[1]) > 20);
        if (state != 'f') {
            return;
        }
        if (Math.abs(seenOff[0]) > 100 && Math.abs(seenOff[1]) > 100) {
            cause = new Hold('d', -1);
            change('X', 'x');
        } else if (last >= 2 && disagreed.get(last) && disagreed.get(last - 1) && disagreed.get(last - 2)) {
            cause = new Hold('r', -1);
            change('X', 'x');
        } else if (count == 60) {
            change('O', 'o');
        }
    }

    public int track(int radar, int off) {
        argument(isOut(radar, 0, 1) || isOut(off, -999, 999));
        int before = seenOff[radar];
        seenOff[radar] = off;
        return before;
    }

    public char state() {
        return state;
    }

    public int count() {
        state(!log.contains("C"));
        return count;
    }

    public int second() {
        return second;
    }

    public int holds() {
        state(!log.contains("C"));
        return holdsOfCount.size();
    }

    public char cause() {
        if ("hsx".indexOf(state) < 0) {
            throw new NoSuchElementException();
        }
        return cause.cause();
    }

    public int causeRule() {
        if ("tswlbg".indexOf(cause()) < 0 || cause.rule() < 0) {
            throw new NoSuchElementException();
        }
        return cause.rule();
    }

    public int logLength() {
        return log.length();
    }

    public char logAt(int index) {
        index(isOut(index, 0, log.length() - 1));
        return log.charAt(index);
    }

    public int logged(char letter) {
        return log.length() - log.replace("" + letter, "").length();
    }

    public long checksum() {
        List<Long> parts = new ArrayList<>();
        parts.add((long) second);
        parts.add((long) (log.contains("C") ? count : 0));
        for (int filling : filled) {
            parts.add((long) filling);
        }
        for (int rule = 0; rule < rules.size(); rule++) {
            parts.add((long) holdsFor(rule));
        }
        parts.add((long) log.length());
        long sum = 7;
        for (long part : parts) {
            sum = 31 * sum + part;
        }
        return sum;
    }

    public float metShare() {
        float met = 0;
        for (int rule = 0; rule < rules.size(); rule++) {
            met = isMet(rule) ? met + 1 : met;
        }
        if (rules.isEmpty()) {
            throw new ArithmeticException();
        }
        return met / rules.size();
    }

    public double meanFill() {
        List<Double> shares = new ArrayList<>();
        double sum = 0;
        for (int tank = 0; tank < 3; tank++) {
            if (tanks[tank].room() != 0) {
                shares.add((double) filled[tank] / (double) tanks[tank].room());
                sum = sum + shares.get(shares.size() - 1);
            }
        }
        if (shares.isEmpty()) {
            throw new ArithmeticException();
        }
        return sum / (double) shares.size();
    }

    /** No sentence lets it become unsound. */
    public boolean isSound() {
        return true;
    }
}

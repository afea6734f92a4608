import java.util.NoSuchElementException;

public final class LaunchRange {
    private static final int NONE = -1;
    private static final int TANKS = 3;
    private static final int MOST_IN_TANK = 100000;
    private static final int MOST_RATE = 1000;
    private static final int MOST_BOIL = 100;
    private static final int MOST_STEPS = 16;
    private static final int MOST_MARKS = 6;
    private static final int MOST_RULES = 12;
    private static final int MOST_SECONDS_OF_PART = 300;
    private static final int EARLIEST_COUNT = -600;
    private static final int LATEST_BEGIN = -10;
    private static final int SENSORS = 9;
    private static final int MEASURES = 3;
    private static final int MOST_VALUE = 9999;
    private static final int MOST_WIND = 200;
    private static final int MOST_DISTANCE = 99;
    private static final int NEAR = 20;
    private static final int LIGHTNING_SECONDS = 600;
    private static final int BOATS = 8;
    private static final int MOST_PEOPLE = 50;
    private static final int CONSOLES = 6;
    private static final int MOST_WINDOW = 5000;
    private static final int MOST_PASSED = 600;
    private static final int LAST_SECOND = 100000;
    private static final int RADARS = 2;
    private static final int MOST_OFF = 999;
    private static final int FAR_OFF = 100;
    private static final int FAR_APART = 20;
    private static final int SECONDS_APART = 3;
    private static final int SECONDS_OF_FLIGHT = 60;

    private static final char NO_COUNT = '-';
    private static final char COUNTING = 'c';
    private static final char HOLDING = 'h';
    private static final char CALLED_OFF = 's';
    private static final char FLYING = 'f';
    private static final char DESTROYED = 'x';
    private static final char BEYOND = 'o';

    private static final char NOT_BEGUN = '-';
    private static final char RUNNING = 'r';
    private static final char DONE = 'e';

    private static final char BY_TANK = 't';
    private static final char BY_MEASURE = 's';
    private static final char BY_WIND = 'w';
    private static final char BY_LIGHTNING = 'l';
    private static final char BY_BOATS = 'b';
    private static final char BY_CONSOLE = 'g';

    private static final char FOR_MARK = 'm';
    private static final char FOR_WINDOW = 'o';
    private static final char FOR_CALL = 'c';
    private static final char FOR_OFF_WAY = 'd';
    private static final char FOR_RADARS = 'r';
    private static final char NO_CAUSE = '-';

    private final Tanks tanks;
    private final Steps steps;
    private final Marks marks;
    private final Sensors sensors;
    private final Lightnings lightnings;
    private final Boats boats;
    private final Rules rules;
    private final Countdown countdown;
    private final Flight flight;
    private final Log log;
    private final boolean[] saysGo;
    private int windNow;
    private int now;

    public LaunchRange() {
        tanks = new Tanks();
        steps = new Steps();
        marks = new Marks();
        sensors = new Sensors();
        lightnings = new Lightnings();
        boats = new Boats();
        rules = new Rules();
        countdown = new Countdown();
        flight = new Flight();
        log = new Log();
        saysGo = new boolean[CONSOLES];
        windNow = 0;
        now = 0;
    }

    // ---- tanks and steps

    public int setTank(int tank, int room, int rate, int boil) throws IllegalArgumentException {
        if (!isBelow(tank, TANKS) || !isWithin(room, 0, MOST_IN_TANK)
                || !isWithin(rate, 0, MOST_RATE) || !isWithin(boil, 0, MOST_BOIL)) {
            throw new IllegalArgumentException("no such tank, or a number out of range");
        }
        return tanks.define(tank, room, rate, boil);
    }

    public boolean setValve(int tank, boolean isOpen) throws IllegalArgumentException {
        if (!isBelow(tank, TANKS)) {
            throw new IllegalArgumentException("no such tank");
        }
        boolean was = tanks.isOpen[tank];
        tanks.isOpen[tank] = isOpen;
        return was;
    }

    public int drain(int tank, int amount) throws IllegalArgumentException {
        if (!isBelow(tank, TANKS) || !isWithin(amount, 1, MOST_IN_TANK)) {
            throw new IllegalArgumentException("no such tank, or an amount out of range");
        }
        return tanks.takeOut(tank, amount);
    }

    public int inTank(int tank) throws IllegalArgumentException {
        if (!isBelow(tank, TANKS)) {
            throw new IllegalArgumentException("no such tank");
        }
        return tanks.amount[tank];
    }

    public int addStep(int from, int seconds) throws IllegalArgumentException, IllegalStateException {
        if (!isWithin(from, EARLIEST_COUNT, -1) || !isWithin(seconds, 1, MOST_SECONDS_OF_PART)) {
            throw new IllegalArgumentException("a number out of range");
        }
        if (steps.size >= MOST_STEPS || isPlanFixed()) {
            throw new IllegalStateException("no step can be added now");
        }
        return steps.append(from, seconds);
    }

    public int setAfter(int step, int other)
            throws IndexOutOfBoundsException, IllegalArgumentException, IllegalStateException {
        if (!isBelow(step, steps.size) || !isBelow(other, steps.size)) {
            throw new IndexOutOfBoundsException("no such step");
        }
        if (other >= step) {
            throw new IllegalArgumentException("the other step has no lower number");
        }
        if (isPlanFixed()) {
            throw new IllegalStateException("no order can be set now");
        }
        return steps.putBehind(step, other);
    }

    public char stepState(int step) throws IndexOutOfBoundsException {
        if (!isBelow(step, steps.size)) {
            throw new IndexOutOfBoundsException("no such step");
        }
        return steps.state[step];
    }

    public int addMark(int count, int seconds, int steps)
            throws IllegalArgumentException, UnsupportedOperationException, IllegalStateException {
        if (!isWithin(count, EARLIEST_COUNT, -1) || !isWithin(seconds, 0, MOST_SECONDS_OF_PART)
                || marks.find(count) != NONE) {
            throw new IllegalArgumentException("a number out of range, or a mark of this count");
        }
        if (!this.steps.haveAll(steps)) {
            throw new UnsupportedOperationException("no such step");
        }
        if (marks.size >= MOST_MARKS || isPlanFixed()) {
            throw new IllegalStateException("no mark can be added now");
        }
        marks.insert(count, seconds, steps);
        return marks.size;
    }

    // ---- rules and people

    public int sense(int sensor, int value) throws IllegalArgumentException {
        if (!isBelow(sensor, SENSORS) || !isWithin(value, -MOST_VALUE, MOST_VALUE)) {
            throw new IllegalArgumentException("a number out of range");
        }
        sensors.told[sensor] = value;
        return sensors.tellTogether(sensor / 3);
    }

    public int inhibit(int sensor, boolean is) throws IllegalArgumentException, UnsupportedOperationException {
        if (!isBelow(sensor, SENSORS)) {
            throw new IllegalArgumentException("no such sensor");
        }
        if (is && sensors.isLastOfThree(sensor)) {
            throw new UnsupportedOperationException("none of the three would count");
        }
        sensors.isOut[sensor] = is;
        return sensors.countThatCount(sensor / 3);
    }

    public int setWind(int wind) throws IllegalArgumentException {
        if (!isWithin(wind, 0, MOST_WIND)) {
            throw new IllegalArgumentException("the wind is out of range");
        }
        int before = windNow;
        windNow = wind;
        return before;
    }

    public int strike(int distance) throws IllegalArgumentException {
        if (!isWithin(distance, 0, MOST_DISTANCE)) {
            throw new IllegalArgumentException("the distance is out of range");
        }
        if (distance <= NEAR) {
            lightnings.tell(now);
        }
        return lightnings.near;
    }

    public int boat(int boat, int people, int distance) throws IllegalArgumentException {
        if (!isBelow(boat, BOATS) || !isWithin(people, 0, MOST_PEOPLE) || !isWithin(distance, 0, MOST_DISTANCE)) {
            throw new IllegalArgumentException("a number out of range");
        }
        boats.tell(boat, people, distance);
        return boats.sumOfRisks();
    }

    public int addRule(char kind, int about, int least, int greatest, int seconds)
            throws IllegalArgumentException, IllegalStateException {
        if (!isThing(kind, about) || least > greatest
                || !isWithin(seconds, 0, MOST_SECONDS_OF_PART)) {
            throw new IllegalArgumentException("no such kind or thing, or a number out of range");
        }
        if (rules.size >= MOST_RULES) {
            throw new IllegalStateException("there are all rules already");
        }
        return rules.append(kind, about, least, greatest, seconds);
    }

    public boolean mayWaive(int rule, int console) throws IndexOutOfBoundsException, IllegalArgumentException {
        if (!isBelow(rule, rules.size)) {
            throw new IndexOutOfBoundsException("no such rule");
        }
        if (!isBelow(console, CONSOLES)) {
            throw new IllegalArgumentException("no such console");
        }
        boolean could = rules.isWaiver(rule, console);
        rules.waivers[rule] |= 1 << console;
        return !could;
    }

    public boolean waive(int rule, int console, int until)
            throws IndexOutOfBoundsException, IllegalArgumentException, UnsupportedOperationException {
        if (!isBelow(rule, rules.size)) {
            throw new IndexOutOfBoundsException("no such rule");
        }
        if (!isBelow(console, CONSOLES) || !isWithin(until, EARLIEST_COUNT, 0)) {
            throw new IllegalArgumentException("no such console, or a count out of range");
        }
        if (!rules.isWaiver(rule, console)) {
            throw new UnsupportedOperationException("this console may not waive the rule");
        }
        boolean was = isWaived(rule);
        rules.waivedBy[rule] = console;
        rules.waivedUntil[rule] = until;
        return was;
    }

    public boolean go(int console, boolean is) throws IllegalArgumentException {
        if (!isBelow(console, CONSOLES)) {
            throw new IllegalArgumentException("no such console");
        }
        boolean said = saysGo[console];
        saysGo[console] = is;
        return said;
    }

    public int value(int rule) throws IndexOutOfBoundsException {
        if (!isBelow(rule, rules.size)) {
            throw new IndexOutOfBoundsException("no such rule");
        }
        return valueFor(rule);
    }

    public int holdsFor(int rule) throws IndexOutOfBoundsException {
        if (!isBelow(rule, rules.size)) {
            throw new IndexOutOfBoundsException("no such rule");
        }
        return rules.heldFor[rule];
    }

    public boolean isMet(int rule) throws IndexOutOfBoundsException {
        if (!isBelow(rule, rules.size)) {
            throw new IndexOutOfBoundsException("no such rule");
        }
        return isMetOrWaived(rule);
    }

    // ---- the count

    public int begin(int count, int open, int shut) throws IllegalArgumentException, IllegalStateException {
        if (!isWithin(count, EARLIEST_COUNT, LATEST_BEGIN) || !isWithin(open, 0, MOST_WINDOW)
                || !isWithin(shut, open, MOST_WINDOW)) {
            throw new IllegalArgumentException("a number out of range");
        }
        if (isPlanFixed()) {
            throw new IllegalStateException("a count goes on, or the rocket has left");
        }
        countdown.start(count, now + open, now + shut);
        steps.startAgain();
        rules.endWaivers();
        log.change(now, 'C', COUNTING);
        return now - count;
    }

    public int recycle(int mark) throws IndexOutOfBoundsException, UnsupportedOperationException {
        if (!isBelow(mark, marks.size)) {
            throw new IndexOutOfBoundsException("no such mark");
        }
        if (!isCountOn() || countdown.at <= marks.count[mark]) {
            throw new UnsupportedOperationException("no count behind this mark goes on");
        }
        countdown.setBack(marks.count[mark]);
        rules.endWaivers();
        log.change(now, 'R', COUNTING);
        return steps.undoFrom(marks.count[mark]);
    }

    public boolean scrub() {
        if (!isCountOn()) {
            return false;
        }
        countdown.blame(FOR_CALL, NONE);
        log.change(now, 'S', CALLED_OFF);
        return true;
    }

    public int pass(int seconds) throws IllegalArgumentException, IllegalStateException {
        if (!isWithin(seconds, 1, MOST_PASSED)) {
            throw new IllegalArgumentException("the seconds are out of range");
        }
        if (now + seconds > LAST_SECOND) {
            throw new IllegalStateException("there is no such second");
        }
        for (int i = 0; i < seconds; i++) {
            goThroughSecond();
        }
        return now;
    }

    public int track(int radar, int off) throws IllegalArgumentException {
        if (!isBelow(radar, RADARS) || !isWithin(off, -MOST_OFF, MOST_OFF)) {
            throw new IllegalArgumentException("a number out of range");
        }
        int before = flight.off[radar];
        flight.off[radar] = off;
        return before;
    }

    // ---- what there is

    public char state() {
        return log.state;
    }

    public int count() throws IllegalStateException {
        if (log.state == NO_COUNT) {
            throw new IllegalStateException("no count was begun");
        }
        return countdown.at;
    }

    public int second() {
        return now;
    }

    public int holds() throws IllegalStateException {
        if (log.state == NO_COUNT) {
            throw new IllegalStateException("no count was begun");
        }
        return countdown.secondsHeld;
    }

    public char cause() throws NoSuchElementException {
        if (!isThereCause()) {
            throw new NoSuchElementException("not held, called off or destroyed");
        }
        return countdown.cause;
    }

    public int causeRule() throws NoSuchElementException {
        if (!isThereCause() || countdown.causeRule == NONE) {
            throw new NoSuchElementException("no cause that is a rule");
        }
        return countdown.causeRule;
    }

    public int risk() {
        return boats.sumOfRisks();
    }

    // ---- log and figures

    public int logLength() {
        return log.text.length();
    }

    public char logAt(int index) throws IndexOutOfBoundsException {
        if (!isBelow(index, log.text.length())) {
            throw new IndexOutOfBoundsException("no such sign");
        }
        return log.text.charAt(index);
    }

    public int logged(char letter) {
        return log.timesOf(letter);
    }

    public long checksum() {
        long sum = 7;
        sum = 31 * sum + now;
        sum = 31 * sum + countdown.at;
        for (int i = 0; i < TANKS; i++) {
            sum = 31 * sum + tanks.amount[i];
        }
        for (int i = 0; i < rules.size; i++) {
            sum = 31 * sum + rules.heldFor[i];
        }
        return 31 * sum + log.text.length();
    }

    public float metShare() throws ArithmeticException {
        if (rules.size == 0) {
            throw new ArithmeticException("no rules");
        }
        int met = 0;
        for (int i = 0; i < rules.size; i++) {
            met += isMetOrWaived(i) ? 1 : 0;
        }
        return (float) met / (float) rules.size;
    }

    public double meanFill() throws ArithmeticException {
        int number = tanks.countWithRoom();
        if (number == 0) {
            throw new ArithmeticException("no tank has room");
        }
        return tanks.sumOfShares() / (double) number;
    }

    public boolean isSound() {
        boolean hasLeftRightly = !hasLeft() || flight.hadGoodRules && countdown.isInWindow(flight.leftAt);
        return hasLeftRightly && tanks.areWithinRoom() && log.tellsAll();
    }

    // ---- ranges and states

    private static boolean isWithin(int number, int least, int greatest) {
        return number >= least && number <= greatest;
    }

    private static boolean isBelow(int number, int size) {
        return number >= 0 && number < size;
    }

    private static boolean isThing(char kind, int about) {
        if (kind == BY_TANK) {
            return isBelow(about, TANKS);
        }
        if (kind == BY_MEASURE) {
            return isBelow(about, MEASURES);
        }
        if (kind == BY_CONSOLE) {
            return isBelow(about, CONSOLES);
        }
        return kind == BY_WIND || kind == BY_LIGHTNING || kind == BY_BOATS;
    }

    private boolean isCountOn() {
        return log.state == COUNTING || log.state == HOLDING;
    }

    private boolean hasLeft() {
        return log.state == FLYING || log.state == DESTROYED || log.state == BEYOND;
    }

    private boolean isPlanFixed() {
        return isCountOn() || hasLeft();
    }

    private boolean isThereCause() {
        return log.state == HOLDING || log.state == CALLED_OFF || log.state == DESTROYED;
    }

    // ---- rules

    private int valueFor(int rule) {
        char kind = rules.kind[rule];
        int about = rules.about[rule];
        if (kind == BY_TANK) {
            return tanks.amount[about];
        }
        if (kind == BY_MEASURE) {
            return sensors.tellTogether(about);
        }
        if (kind == BY_WIND) {
            return windNow;
        }
        if (kind == BY_LIGHTNING) {
            return lightnings.near;
        }
        if (kind == BY_BOATS) {
            return boats.sumOfRisks();
        }
        return saysGo[about] ? 1 : 0;
    }

    private boolean isWaived(int rule) {
        return log.state != NO_COUNT && rules.isWaivedAt(rule, countdown.at);
    }

    private boolean isMetOrWaived(int rule) {
        return rules.isMetBy(rule, valueFor(rule)) || isWaived(rule);
    }

    // ---- a second

    private void goThroughSecond() {
        tanks.boilAndFill();
        if (isCountOn()) {
            steps.work(countdown.at);
        }
        for (int i = 0; i < rules.size; i++) {
            rules.lookAt(i, valueFor(i));
        }
        // The second in which the rocket leaves is no second of its flight.
        if (isCountOn()) {
            countOn();
        } else if (hasLeft()) {
            flyOn();
        }
        now++;
        lightnings.forgetOld(now);
    }

    private void countOn() {
        int rule = rules.firstNotMet(countdown.at);
        if (rule != NONE) {
            hold(rules.kind[rule], rule);
        } else if (marks.keep(countdown.at, countdown.heldHere, steps)) {
            hold(FOR_MARK, NONE);
        } else if (countdown.at == -1 && now + 1 < countdown.open) {
            hold(FOR_WINDOW, NONE);
        } else {
            goFurther();
        }
        if (isCountOn() && now + 1 - countdown.at > countdown.shut) {
            countdown.blameFirstHold();
            log.change(now, 'S', CALLED_OFF);
        }
    }

    private void hold(char cause, int rule) {
        countdown.stay(cause, rule);
        if (log.state == COUNTING) {
            log.change(now, 'H', HOLDING);
        }
    }

    private void goFurther() {
        if (log.state == HOLDING) {
            log.change(now, 'G', COUNTING);
        }
        boolean areRulesGood = rules.areGood(countdown.at);
        countdown.advance();
        if (countdown.at == 0 && countdown.isInWindow(now + 1)) {
            flight.leave(now + 1, areRulesGood);
            log.change(now, 'F', FLYING);
        }
    }

    private void flyOn() {
        // The count told goes on also when the rocket flies no more.
        countdown.at++;
        if (log.state != FLYING) {
            return;
        }
        flight.compareRadars();
        if (flight.isFarOff()) {
            destroy(FOR_OFF_WAY);
        } else if (flight.secondsApart >= SECONDS_APART) {
            destroy(FOR_RADARS);
        } else if (countdown.at >= SECONDS_OF_FLIGHT) {
            log.change(now, 'O', BEYOND);
        }
    }

    private void destroy(char cause) {
        countdown.blame(cause, NONE);
        log.change(now, 'X', DESTROYED);
    }

    // ---- the parts of the range

    private static final class Tanks {
        final int[] room = new int[TANKS];
        final int[] rate = new int[TANKS];
        final int[] boil = new int[TANKS];
        final int[] amount = new int[TANKS];
        final boolean[] isOpen = new boolean[TANKS];

        int define(int tank, int itsRoom, int itsRate, int itsBoil) {
            room[tank] = itsRoom;
            rate[tank] = itsRate;
            boil[tank] = itsBoil;
            amount[tank] = Math.min(amount[tank], itsRoom);
            return amount[tank];
        }

        int takeOut(int tank, int most) {
            int gone = Math.min(amount[tank], most);
            amount[tank] -= gone;
            return gone;
        }

        void boilAndFill() {
            for (int i = 0; i < TANKS; i++) {
                amount[i] -= amount[i] * boil[i] / 1000;
                if (isOpen[i]) {
                    amount[i] = Math.min(room[i], amount[i] + rate[i]);
                }
            }
        }

        int countWithRoom() {
            int number = 0;
            for (int i = 0; i < TANKS; i++) {
                number += room[i] > 0 ? 1 : 0;
            }
            return number;
        }

        double sumOfShares() {
            double sum = 0.0;
            for (int i = 0; i < TANKS; i++) {
                if (room[i] > 0) {
                    sum += (double) amount[i] / (double) room[i];
                }
            }
            return sum;
        }

        boolean areWithinRoom() {
            for (int i = 0; i < TANKS; i++) {
                if (amount[i] > room[i]) {
                    return false;
                }
            }
            return true;
        }
    }

    private static final class Steps {
        final int[] from = new int[MOST_STEPS];
        final int[] seconds = new int[MOST_STEPS];
        final int[] left = new int[MOST_STEPS];
        final int[] behind = new int[MOST_STEPS];
        final char[] state = new char[MOST_STEPS];
        int size;

        int append(int itsFrom, int itsSeconds) {
            int step = size;
            from[step] = itsFrom;
            seconds[step] = itsSeconds;
            state[step] = NOT_BEGUN;
            size++;
            return step;
        }

        int putBehind(int step, int other) {
            behind[step] |= 1 << other;
            return Integer.bitCount(behind[step]);
        }

        boolean haveAll(int set) {
            return set >>> size == 0;
        }

        boolean areDone(int set) {
            return (set & ~doneOnes()) == 0;
        }

        int doneOnes() {
            int done = 0;
            for (int i = 0; i < size; i++) {
                done |= state[i] == DONE ? 1 << i : 0;
            }
            return done;
        }

        void startAgain() {
            for (int i = 0; i < size; i++) {
                state[i] = NOT_BEGUN;
            }
        }

        int undoFrom(int count) {
            int undone = 0;
            for (int i = 0; i < size; i++) {
                if (from[i] >= count && state[i] != NOT_BEGUN) {
                    state[i] = NOT_BEGUN;
                    undone++;
                }
            }
            return undone;
        }

        void work(int count) {
            for (int i = 0; i < size; i++) {
                if (state[i] == RUNNING) {
                    left[i]--;
                    state[i] = left[i] > 0 ? RUNNING : DONE;
                }
            }
            int done = doneOnes();
            for (int i = 0; i < size; i++) {
                if (state[i] == NOT_BEGUN && from[i] <= count && (behind[i] & ~done) == 0) {
                    state[i] = RUNNING;
                    left[i] = seconds[i];
                }
            }
        }
    }

    /** The holds that are built in, kept in the order of their counts, as this is how they are numbered. */
    private static final class Marks {
        final int[] count = new int[MOST_MARKS];
        final int[] seconds = new int[MOST_MARKS];
        final int[] steps = new int[MOST_MARKS];
        int size;

        int find(int itsCount) {
            for (int i = 0; i < size; i++) {
                if (count[i] == itsCount) {
                    return i;
                }
            }
            return NONE;
        }

        void insert(int itsCount, int itsSeconds, int itsSteps) {
            int place = size;
            for (; place > 0 && count[place - 1] > itsCount; place--) {
                count[place] = count[place - 1];
                seconds[place] = seconds[place - 1];
                steps[place] = steps[place - 1];
            }
            count[place] = itsCount;
            seconds[place] = itsSeconds;
            steps[place] = itsSteps;
            size++;
        }

        boolean keep(int itsCount, int heldHere, Steps all) {
            int mark = find(itsCount);
            return mark != NONE && (heldHere < seconds[mark] || !all.areDone(steps[mark]));
        }
    }

    private static final class Sensors {
        final int[] told = new int[SENSORS];
        final boolean[] isOut = new boolean[SENSORS];

        int countThatCount(int measure) {
            int number = 0;
            for (int i = 3 * measure; i < 3 * measure + 3; i++) {
                number += isOut[i] ? 0 : 1;
            }
            return number;
        }

        boolean isLastOfThree(int sensor) {
            return !isOut[sensor] && countThatCount(sensor / 3) == 1;
        }

        int tellTogether(int measure) {
            int number = countThatCount(measure);
            int sum = 0;
            int least = MOST_VALUE;
            int greatest = -MOST_VALUE;
            for (int i = 3 * measure; i < 3 * measure + 3; i++) {
                if (!isOut[i]) {
                    sum += told[i];
                    least = Math.min(least, told[i]);
                    greatest = Math.max(greatest, told[i]);
                }
            }
            if (number == 3) {
                return sum - least - greatest;
            }
            return number == 2 ? sum / 2 : sum;
        }
    }

    /** The near lightnings of the last 600 seconds: a ring, so that old ones need no search. */
    private static final class Lightnings {
        final int[] inSecond = new int[LIGHTNING_SECONDS];
        int near;

        void tell(int second) {
            inSecond[second % LIGHTNING_SECONDS]++;
            near++;
        }

        void forgetOld(int second) {
            near -= inSecond[second % LIGHTNING_SECONDS];
            inSecond[second % LIGHTNING_SECONDS] = 0;
        }
    }

    private static final class Boats {
        final int[] riskOf = new int[BOATS];

        void tell(int boat, int people, int distance) {
            riskOf[boat] = people * Math.max(0, 100 - 10 * distance);
        }

        int sumOfRisks() {
            int sum = 0;
            for (int i = 0; i < BOATS; i++) {
                sum += riskOf[i];
            }
            return sum;
        }
    }

    private static final class Rules {
        final char[] kind = new char[MOST_RULES];
        final int[] about = new int[MOST_RULES];
        final int[] least = new int[MOST_RULES];
        final int[] greatest = new int[MOST_RULES];
        final int[] seconds = new int[MOST_RULES];
        final int[] seen = new int[MOST_RULES];
        final int[] heldFor = new int[MOST_RULES];
        final int[] waivers = new int[MOST_RULES];
        final int[] waivedBy = new int[MOST_RULES];
        final int[] waivedUntil = new int[MOST_RULES];
        int size;

        int append(char itsKind, int itsAbout, int itsLeast, int itsGreatest, int itsSeconds) {
            int rule = size;
            kind[rule] = itsKind;
            about[rule] = itsAbout;
            least[rule] = itsLeast;
            greatest[rule] = itsGreatest;
            seconds[rule] = itsSeconds;
            waivedBy[rule] = NONE;
            size++;
            return rule;
        }

        void lookAt(int rule, int value) {
            seen[rule] = value;
            heldFor[rule] = holdsBy(rule, value) ? heldFor[rule] + 1 : 0;
        }

        boolean holdsBy(int rule, int value) {
            return value >= least[rule] && value <= greatest[rule];
        }

        boolean isMetBy(int rule, int value) {
            return heldFor[rule] >= seconds[rule] && holdsBy(rule, value);
        }

        boolean isWaivedAt(int rule, int count) {
            return waivedBy[rule] != NONE && count <= waivedUntil[rule];
        }

        int firstNotMet(int count) {
            for (int i = 0; i < size; i++) {
                if (!isMetBy(i, seen[i]) && !isWaivedAt(i, count)) {
                    return i;
                }
            }
            return NONE;
        }

        boolean areGood(int count) {
            for (int i = 0; i < size; i++) {
                if (!isMetBy(i, seen[i]) && !(isWaivedAt(i, count) && isWaiver(i, waivedBy[i]))) {
                    return false;
                }
            }
            return true;
        }

        boolean isWaiver(int rule, int console) {
            return (waivers[rule] >> console & 1) == 1;
        }

        void endWaivers() {
            for (int i = 0; i < size; i++) {
                waivedBy[i] = NONE;
            }
        }
    }

    private static final class Countdown {
        int at;
        int open;
        int shut;
        int secondsHeld;
        int heldHere;
        char cause = NO_CAUSE;
        int causeRule = NONE;
        char firstCause = NO_CAUSE;
        int firstRule = NONE;

        void start(int count, int opensAt, int shutsAt) {
            at = count;
            open = opensAt;
            shut = shutsAt;
            secondsHeld = 0;
            heldHere = 0;
            firstCause = NO_CAUSE;
            firstRule = NONE;
        }

        void setBack(int count) {
            at = count;
            heldHere = 0;
        }

        void stay(char why, int rule) {
            blame(why, rule);
            if (firstCause == NO_CAUSE) {
                firstCause = why;
                firstRule = rule;
            }
            secondsHeld++;
            heldHere++;
        }

        void advance() {
            at++;
            heldHere = 0;
        }

        void blame(char why, int rule) {
            cause = why;
            causeRule = rule;
        }

        void blameFirstHold() {
            blame(firstCause == NO_CAUSE ? FOR_WINDOW : firstCause, firstRule);
        }

        boolean isInWindow(int second) {
            return isWithin(second, open, shut);
        }
    }

    private static final class Flight {
        final int[] off = new int[RADARS];
        int leftAt;
        int secondsApart;
        boolean hadGoodRules;

        void leave(int second, boolean areRulesGood) {
            leftAt = second;
            hadGoodRules = areRulesGood;
        }

        void compareRadars() {
            secondsApart = Math.abs(off[0] - off[1]) > FAR_APART ? secondsApart + 1 : 0;
        }

        boolean isFarOff() {
            return Math.abs(off[0]) > FAR_OFF && Math.abs(off[1]) > FAR_OFF;
        }
    }

    /** The state stands in the log, so that it cannot change without being told. */
    private static final class Log {
        final StringBuilder text = new StringBuilder();
        char state = NO_COUNT;
        int changes;

        void change(int second, char letter, char next) {
            text.append(second).append(letter).append(';');
            state = next;
            changes++;
        }

        int timesOf(char letter) {
            int times = 0;
            for (int i = 0; i < text.length(); i++) {
                times += text.charAt(i) == letter ? 1 : 0;
            }
            return times;
        }

        boolean tellsAll() {
            return timesOf(';') == changes && lastTold() == state;
        }

        char lastTold() {
            int length = text.length();
            return length < 2 ? NO_COUNT : stateBehind(text.charAt(length - 2));
        }

        static char stateBehind(char letter) {
            if (letter == 'C' || letter == 'G' || letter == 'R') {
                return COUNTING;
            }
            if (letter == 'H') {
                return HOLDING;
            }
            if (letter == 'S') {
                return CALLED_OFF;
            }
            if (letter == 'F') {
                return FLYING;
            }
            return letter == 'X' ? DESTROYED : BEYOND;
        }
    }
}

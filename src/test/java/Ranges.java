/** Ranges in the states that many tests start from. */
final class Ranges {
    private Ranges() {
    }

    /** Left in the second 9, so that the second is 10 and the count 0. */
    static LaunchRange flying() {
        LaunchRange x = new LaunchRange();
        x.begin(-10, 0, 5000);
        x.pass(10);
        return x;
    }

    /** Destroyed in the second 10, off its way. */
    static LaunchRange destroyed() {
        LaunchRange x = flying();
        x.track(0, 101);
        x.track(1, 101);
        x.pass(1);
        return x;
    }

    static LaunchRange beyond() {
        LaunchRange x = flying();
        x.pass(60);
        return x;
    }

    /** Held in the second 0 at the count -10, for the rule 0 about the wind. */
    static LaunchRange held() {
        LaunchRange x = new LaunchRange();
        x.addRule('w', 0, 0, 10, 0);
        x.setWind(11);
        x.begin(-10, 0, 5000);
        x.pass(1);
        return x;
    }

    static LaunchRange calledOff() {
        LaunchRange x = held();
        x.scrub();
        return x;
    }
}

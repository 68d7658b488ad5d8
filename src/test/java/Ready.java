/** Objects that are brought to where a test begins. */
final class Ready {
    static final int ORDERED = 0;
    static final int SEEN = 1;
    static final int WISHED = 2;
    static final int LOCKED = 3;
    static final int CHECKED = 4;
    static final int MISSED = 5;
    static final int QUIET = 6;
    static final int WISH = 7;
    static final int ACTIVE = 8;
    static final int REACTIVE = 9;
    static final int STEPS = 10;
    static final int EVENTS = 11;

    static final int FREQUENCY = 1;
    static final int VOLTAGE = 2;

    private Ready() {
    }

    /** Any grid is quiet for it, and one quiet step is enough; not checked yet. */
    static GridConverter lenient() {
        GridConverter x = new GridConverter();
        x.set(2, 1);
        x.set(3, 0);
        x.set(4, 20000);
        x.set(5, 40000);
        x.set(6, 70000);
        return x;
    }

    /** Checked, on wished, seen closed; the next lenient step closes it. */
    static GridConverter wished(GridConverter x) {
        x.check();
        x.on();
        x.seen(true);
        return x;
    }

    /** So many samples of nothing: the voltage goes to 0, the error is 0. */
    static void zeros(GridConverter x, int n) {
        for (int i = 0; i < n; i++) {
            x.sample(0, 0, 0);
        }
    }

    /** Sixteen samples along a, so that the voltage is just this. */
    static void sixteen(GridConverter x, int voltage) {
        for (int i = 0; i < 16; i++) {
            x.sample(voltage, -voltage / 2, -voltage + voltage / 2);
        }
    }

    /** More steps than one run can have: how many of them were closed at their ends. */
    static int run(GridConverter x, int n) {
        int closed = 0;
        for (int left = n; left > 0; left -= 500) {
            closed += x.run(Math.min(left, 500));
        }
        return closed;
    }
}

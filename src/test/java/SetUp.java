/** Objects in which nothing is as at first, so that a change shows, in the states that a call can find. */
final class SetUp {
    /** Kind, level and time; in each kind that there is twice, the stay points of Picture are cut by one alone. */
    static final int[][] CURVES = {
        {1, 1000, 10}, {2, 6000, 900}, {3, 45000, 12}, {4, 52000, 13}, {1, 15000, 940}, {2, 2000, 950}};
    static final int[][] STAY_POINTS = {{1, 700, 5}, {2, 16000, 6}, {3, 46000, 8}, {4, 51000, 9}};
    private static final int[] SETTINGS = {9000, 70, 3, 10, 19000, 41000, 69000, 50300, 30, 1, 2, 7};

    private SetUp() {
    }

    /** Where the inner side of a level lies. */
    static int inner(int kind) {
        return kind == 1 || kind == 3 ? 1 : -1;
    }

    /** Checked and off; some curves count. */
    static GridConverter off() {
        GridConverter x = new GridConverter();
        for (int i = 0; i < SETTINGS.length; i++) {
            x.set(i, SETTINGS[i]);
        }
        for (int k = 0; k < CURVES.length; k++) {
            x.curve(k, CURVES[k][0], CURVES[k][1], CURVES[k][2]);
        }
        for (int k = 0; k < STAY_POINTS.length; k++) {
            x.stay(k, STAY_POINTS[k][0], STAY_POINTS[k][1], STAY_POINTS[k][2]);
        }
        x.power(300, 400);
        x.grid(9000, 50100, 12345);
        x.run(40);
        x.check();
        return x;
    }

    /** As off, but not checked. */
    static GridConverter unchecked() {
        GridConverter x = off();
        x.set(0, SETTINGS[0]);
        return x;
    }

    /** On is wished, the contactor not closed yet. */
    static GridConverter wished() {
        GridConverter x = off();
        x.on();
        return x;
    }

    /** Closed with commands, and seen open for two steps. */
    static GridConverter closed() {
        GridConverter x = wished();
        x.seen(true);
        x.run(5);
        x.seen(false);
        x.run(2);
        return x;
    }

    /** Locked and still seen closed, missed for two steps. */
    static GridConverter lockedSeenClosed() {
        GridConverter x = closed();
        x.run(5);
        x.seen(true);
        x.run(2);
        return x;
    }

    /** Locked and seen open. */
    static GridConverter lockedSeenOpen() {
        GridConverter x = lockedSeenClosed();
        x.seen(false);
        return x;
    }
}

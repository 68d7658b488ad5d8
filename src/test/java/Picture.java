import java.util.Arrays;

/** What an object is, as a row of numbers: two objects with the same row can't be told apart. */
final class Picture {
    interface Making {
        GridConverter make();
    }

    /** Settings by which any grid is quiet at once, and one sample brings the power that was set. */
    private static final int[] OPEN_HANDED = {20000, 2000, 1, 0, 20000, 40000, 70000, 70000, 0, 0, 0, 200};

    private final long[] row = new long[512];
    private int length;

    private Picture() {
    }

    /** All that can be asked without a change: at most 57 calls. */
    static long[] of(GridConverter x) {
        Picture picture = new Picture();
        picture.look(x);
        return picture.taken();
    }

    /** Also what shows by later calls alone: the settings, points, powers and the grid, and the rows of the loop. */
    static long[] throughout(Making making) {
        Picture picture = new Picture();
        picture.drive(making.make());
        picture.drawStayPoints(making.make());
        picture.drawCurves(making.make());
        return picture.taken();
    }

    private long[] taken() {
        return Arrays.copyOf(row, length);
    }

    private void look(GridConverter x) {
        for (int what = 0; what < 12; what++) {
            keep(x.state(what));
        }
        for (int what = 0; what < 6; what++) {
            keep(x.signal(what));
            keep(x.count(what));
        }
        keep(x.energy());
        for (int i = 0; i < Math.min(16, x.state(Ready.EVENTS)); i++) {
            keep(x.event(i, 0));
            keep(x.event(i, 1));
        }
    }

    private void drive(GridConverter x) {
        look(x);
        keep(x.sample(1600, -800, -800));
        keep(closedSteps(x));
        look(x);
        x.off();
        for (int i = 0; i < OPEN_HANDED.length; i++) {
            keep(x.set(i, OPEN_HANDED[i]));
        }
        x.seen(false);
        keep(x.reset() ? 1 : 0);
        clearCurves(x);
        keep(x.check());
        keep(x.on() ? 1 : 0);
        keep(x.sample(0, 0, 0));
        look(x);
    }

    private void drawStayPoints(GridConverter x) {
        x.off();
        openBounds(x);
        clearCurves(x);
        for (int[] p : SetUp.STAY_POINTS) {
            int inner = SetUp.inner(p[0]);
            x.curve(0, p[0], p[1] + inner, p[2]);
            keep(x.check());
            x.curve(0, p[0], p[1], p[2]);
            keep(x.check());
            x.curve(0, p[0], p[1] + inner, p[2] + 1);
            keep(x.check());
        }
    }

    private void drawCurves(GridConverter x) {
        x.off();
        openBounds(x);
        for (int k = 0; k < 4; k++) {
            x.stay(k, 0, 0, 1);
        }
        for (int[] p : SetUp.CURVES) {
            int inner = SetUp.inner(p[0]);
            x.stay(0, p[0], p[1] - inner, p[2]);
            keep(x.check());
            x.stay(0, p[0], p[1], p[2]);
            keep(x.check());
            x.stay(0, p[0], p[1] - inner, p[2] - 1);
            keep(x.check());
        }
    }

    /** Else a wrong pair of bounds would hide what curve cuts. */
    private static void openBounds(GridConverter x) {
        for (int i = 3; i < 7; i++) {
            x.set(i, OPEN_HANDED[i]);
        }
    }

    private static void clearCurves(GridConverter x) {
        for (int k = 0; k < 6; k++) {
            x.curve(k, 0, 0, 1);
        }
    }

    private static long closedSteps(GridConverter x) {
        try {
            return x.run(3);
        } catch (IllegalStateException e) {
            return -1;
        }
    }

    private void keep(long answer) {
        row[length] = answer;
        length++;
    }
}

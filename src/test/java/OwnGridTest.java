/** Promises 12 (grid) and 13 (run). */
public final class OwnGridTest {
    public static void main(String[] args) {
        Due due = new Due("OwnGridTest");
        wrongGrids(due);
        wrongRuns(due);
        samplesOfGrid(due);
        edgesOfGrid(due);
        jumpsAddUp(due);
        countsClosedSteps(due);
        gridsAtTheirEnds(due);
        jumpsAtTheirEnds(due);
        runsAtTheirEnds(due);
        closedAtTheEnd(due);
        due.end();
    }

    private static void wrongGrids(Due due) {
        GridConverter x = new GridConverter();
        due.argument("amplitude -1", () -> x.grid(-1, 50000, 0));
        due.argument("amplitude 20001", () -> x.grid(20001, 50000, 0));
        due.argument("frequency 39999", () -> x.grid(1000, 39999, 0));
        due.argument("frequency 70001", () -> x.grid(1000, 70001, 0));
        due.state("no grid by these", () -> x.run(1));
        x.grid(0, 40000, Integer.MIN_VALUE);
        x.grid(20000, 70000, Integer.MAX_VALUE);
        due.same("run(1)", x.run(1), 0);
        GridConverter y = new GridConverter();
        y.grid(10000, 50000, 0);
        due.argument("a jump that is refused", () -> y.grid(20001, 50000, 1 << 30));
        y.run(1);
        due.same("did not turn the angle", y.signal(4), -2);
        due.same("nor the amplitude", y.signal(5), 31110);
    }

    private static void wrongRuns(Due due) {
        GridConverter x = new GridConverter();
        due.argument("run(0): the argument first", () -> x.run(0));
        due.state("run(1) without a grid", () -> x.run(1));
        due.state("run(500) without a grid", () -> x.run(500));
        due.argument("run(501) without a grid", () -> x.run(501));
        x.grid(1000, 50000, 0);
        due.argument("run(0)", () -> x.run(0));
        due.argument("run(-1)", () -> x.run(-1));
        due.argument("run(501)", () -> x.run(501));
        due.same("no step by these", x.state(Ready.STEPS), 0);
        x.run(500);
        due.same("steps", x.state(Ready.STEPS), 500);
    }

    /** The same samples, reckoned here, must bring another object to the same signals. */
    private static void samplesOfGrid(Due due) {
        int[][] grids = {{10000, 50000, 0}, {20000, 70000, 123456789}, {777, 40000, -5}, {0, 50000, 7}};
        for (int[] g : grids) {
            sameSamples(due, g[0], g[1], g[2], 60);
        }
    }

    /** Angles at which a phase is about to take its next height, and frequencies whose pace only just rounds so. */
    private static void edgesOfGrid(Due due) {
        int[] shifts = {0, 1431655765, -1431655765};
        for (int shift : shifts) {
            for (int turn = 0; turn < 8; turn++) {
                for (int near = -1; near <= 1; near++) {
                    sameSamples(due, 20000, 50000, shift + (turn << 29) + near, 2);
                }
            }
        }
        int[] frequencies = {40515, 40056};
        for (int frequency : frequencies) {
            int pace = (int) (frequency * 4294967296L / 10000000L);
            for (int turn = 0; turn < 8; turn++) {
                sameSamples(due, 20000, frequency, (turn << 29) - pace, 2);
                sameSamples(due, 20000, frequency, (turn << 29) - pace - 1, 2);
            }
        }
    }

    private static void sameSamples(Due due, int amplitude, int frequency, int jump, int steps) {
        GridConverter x = new GridConverter();
        GridConverter y = new GridConverter();
        x.grid(amplitude, frequency, jump);
        long w = jump;
        for (int i = 0; i < steps; i++) {
            x.run(1);
            y.sample(phase(amplitude, w), phase(amplitude, w - 1431655765L), phase(amplitude, w + 1431655765L));
            w += frequency * 4294967296L / 10000000L;
            for (int what = 0; what < 6; what++) {
                due.same("signal(" + what + ") of step " + i, x.signal(what), y.signal(what));
            }
        }
    }

    private static int phase(int amplitude, long w) {
        long high = Math.floorMod(w + 1073741824L, 4294967296L) / 65536;
        long u = high % 32768;
        long sine = u * (32768 - u) / 16384;
        return (int) (amplitude * (high < 32768 ? sine : -sine) / 16384);
    }

    private static void jumpsAddUp(Due due) {
        GridConverter x = new GridConverter();
        GridConverter y = new GridConverter();
        x.grid(5000, 60000, 2000000000);
        x.grid(9000, 50000, 2000000000);
        y.grid(9000, 50000, -294967296);
        x.run(5);
        y.run(5);
        due.same("jumps wrap", x.signal(4), y.signal(4));
        x.grid(9000, 50000, 0);
        x.run(5);
        y.run(5);
        due.same("a grid goes on at its angle", x.signal(4), y.signal(4));
        x.grid(9000, 50000, 3);
        x.grid(9000, 50000, -3);
        x.run(5);
        y.run(5);
        due.same("there and back", x.signal(4), y.signal(4));
        x.grid(9000, 50000, 1 << 29);
        x.run(1);
        y.run(1);
        due.same("a jump", x.signal(4) > y.signal(4) + 5000, true);
    }

    private static void countsClosedSteps(Due due) {
        GridConverter x = Ready.lenient();
        x.set(2, 4);
        x.set(11, 3);
        x.check();
        x.grid(0, 50000, 0);
        due.same("run(2)", x.run(2), 0);
        x.on();
        due.same("closed at the ends of two, locked in the next", x.run(10), 2);
        due.same("steps", x.state(Ready.STEPS), 12);
        due.same("locked", x.state(Ready.LOCKED), 1);
    }

    /** "its amplitude (0 .. 20000) and frequency (40000 .. 70000)": the ends are taken; m of the first step. */
    private static void gridsAtTheirEnds(Due due) {
        int[][] rows = {{0, 0}, {1, 2}, {19999, 62218}, {20000, 62221}};
        int[] frequencies = {40000, 40001, 69999, 70000};
        for (int[] row : rows) {
            for (int frequency : frequencies) {
                GridConverter x = new GridConverter();
                x.grid(row[0], frequency, 0);
                due.same("run(1)", x.run(1), 0);
                due.same("m of " + row[0], x.signal(5), row[1]);
            }
        }
    }

    /** "its angle grows by jump (0 at first)", and wraps as it does by its frequency; jumps, and m of the step. */
    private static void jumpsAtTheirEnds(Due due) {
        int least = Integer.MIN_VALUE;
        int greatest = Integer.MAX_VALUE;
        int[][] rows = {{0, 0, 62221}, {greatest, 0, 62217}, {least, 0, 62221}, {greatest, 1, 62221},
            {least, -1, 62217}, {least, least, 62221}, {greatest, greatest, 62217}, {greatest, least, 62217}};
        for (int[] row : rows) {
            GridConverter x = new GridConverter();
            x.grid(5, 40000, row[0]);
            x.grid(20000, 50000, row[1]);
            x.run(1);
            due.same("m of " + row[0] + " and " + row[1], x.signal(5), row[2]);
        }
        GridConverter y = new GridConverter();
        y.grid(1, 50000, least - 21474836);
        y.run(1);
        due.same("before it wraps", y.signal(5), 0);
        y.run(1);
        due.same("at the least angle", y.signal(5), 2);
    }

    /** "So many steps (1 .. 500)". */
    private static void runsAtTheirEnds(Due due) {
        GridConverter x = Ready.wished(Ready.lenient());
        x.grid(0, 50000, 0);
        due.same("run(1)", x.run(1), 1);
        due.same("steps", x.state(Ready.STEPS), 1);
        due.same("run(500)", x.run(500), 500);
        due.same("steps", x.state(Ready.STEPS), 501);
        due.same("run(499)", x.run(499), 499);
        due.same("steps", x.state(Ready.STEPS), 1000);
    }

    /** "How many steps there were with the contactor ordered closed at their ends": the one that opens it is none. */
    private static void closedAtTheEnd(Due due) {
        GridConverter x = Ready.lenient();
        x.set(2, 3);
        x.curve(0, 3, 50000, 8);
        Ready.wished(x);
        x.grid(0, 50000, 0);
        due.same("closed in the third step, open in the eighth", x.run(10), 5);
        due.same("closed", x.event(1, 1), 2);
        due.same("opened", x.event(0, 1), 7);
        due.same("not closed any more", x.run(10), 0);
    }
}

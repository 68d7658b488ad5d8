/** "Terms": the divisions, ROOT, SINE and COSINE, each where a step or the grid of its own shows it. */
public final class TermsTest {
    private static final int ERROR = 4;
    private static final int M = 5;

    public static void main(String[] args) {
        Due due = new Due("TermsTest");
        errorTowardsNothing(due);
        phaseTowardsNothing(due);
        slopeTowardsNothing(due);
        droopTowardsNothing(due);
        voltageTowardsNothing(due);
        frequencyTowardsNothing(due);
        gridPaceTowardsNothing(due);
        yRoundedDown(due);
        rootNotAbove(due);
        restRootNotAbove(due);
        sineOfTheHighestBits(due);
        sineOfTheLoop(due);
        phasesWrap(due);
        due.end();
    }

    /** "Divisions round towards 0": at the angle 0 the error is y * 16384 / (m + 1). */
    private static void errorTowardsNothing(Due due) {
        int[][] rows = {{0, 0, 0}, {1, 8192, 1}, {-1, -10922, 2}, {2, 12288, 3}, {-2, -13107, 4}, {512, 14178, 1024},
            {-512, -14178, 1024}, {1024, 14185, 2048}, {-1024, -14185, 2048}};
        for (int[] row : rows) {
            GridConverter x = new GridConverter();
            x.sample(0, row[0], 0);
            due.same("error of b = " + row[0], x.signal(ERROR), row[1]);
            due.same("m of b = " + row[0], x.signal(M), row[2]);
        }
    }

    /** An amplitude of 1 has a phase of 1 or -1 where the cosine is 16384 or -16384, else 0. */
    private static void phaseTowardsNothing(Due due) {
        int[][] rows = {{0, 2}, {65535, 2}, {65536, 0}, {-1, 0}, {-65536, 0}, {2147483647, 0}, {-2147483648, 2},
            {-2147418113, 2}, {-2147418112, 0}};
        for (int[] row : rows) {
            due.same("m of the phase a at " + row[0], after(1, row[0]).signal(M), row[1]);
        }
    }

    /** By a slope of 1 the reactive command is a hundredth of what the voltage lacks to 10000. */
    private static void slopeTowardsNothing(Due due) {
        int[][] rows = {{9899, 1}, {9900, 1}, {9901, 0}, {10000, 0}, {10099, 0}, {10100, -1}, {10199, -1},
            {10200, -2}};
        for (int[] row : rows) {
            GridConverter x = Ready.lenient();
            x.set(10, 1);
            Ready.wished(x);
            Ready.sixteen(x, row[0]);
            due.same("the voltage", x.signal(Ready.VOLTAGE), row[0]);
            due.same("slope at " + row[0], x.state(Ready.REACTIVE), row[1]);
        }
    }

    /** The frequency of samples of nothing is 49999. */
    private static void droopTowardsNothing(Due due) {
        int[][] rows = {{49999, 50}, {49998, 50}, {49900, 50}, {49899, 43}, {49800, 43}, {49799, 36}};
        for (int[] row : rows) {
            GridConverter x = Ready.lenient();
            x.set(7, row[0]);
            x.set(8, 7);
            Ready.wished(x);
            x.power(50, 0);
            x.sample(0, 0, 0);
            due.same("droop from " + row[0], x.state(Ready.ACTIVE), row[1]);
        }
    }

    /** One m of 2 * a, divided by 48. */
    private static void voltageTowardsNothing(Due due) {
        int[][] rows = {{0, 0}, {23, 0}, {24, 1}, {47, 1}, {48, 2}, {-23, 0}, {-24, 1}};
        for (int[] row : rows) {
            GridConverter x = new GridConverter();
            x.sample(row[0], 0, 0);
            due.same("voltage of a = " + row[0], x.signal(Ready.VOLTAGE), row[1]);
        }
    }

    /** 32 paces of 21474836 are 49999.998. */
    private static void frequencyTowardsNothing(Due due) {
        GridConverter x = new GridConverter();
        due.same("before the first step", x.signal(Ready.FREQUENCY), 49999);
        x.sample(0, 0, 0);
        due.same("after it", x.signal(Ready.FREQUENCY), 49999);
        GridConverter y = new GridConverter();
        y.sample(0, 1, 0);
        due.same("50120.4", y.signal(Ready.FREQUENCY), 50120);
    }

    /** 40000 is a pace of 17179869.184, 50000 one of 21474836.48: an amplitude of 1 shows where w is. */
    private static void gridPaceTowardsNothing(Due due) {
        int[][] rows = {{40000, 17179869}, {50000, 21474836}, {70000, 30064771}, {40001, 17180298}, {59999, 25769374}};
        for (int[] row : rows) {
            GridConverter x = new GridConverter();
            x.grid(1, row[0], -row[1]);
            x.run(1);
            due.same("the step before", x.signal(M), 0);
            x.run(1);
            due.same(row[0] + " reaches the angle 0", x.signal(M), 2);
            GridConverter y = new GridConverter();
            y.grid(1, row[0], -row[1] - 1);
            y.run(2);
            due.same(row[0] + " does not go beyond", y.signal(M), 0);
        }
    }

    /** "y = (b - c) * 1774 / 1024, rounded down". */
    private static void yRoundedDown(Due due) {
        int[][] rows = {{0, 1, 0, 1, 8192}, {0, 0, 1, 2, -10922}, {0, -1, 0, 2, -10922}, {0, 0, 512, 1024, -14178},
            {-32768, 32767, -32768, 131090, 14189}, {-32768, -32768, 32767, 131091, -14189}};
        for (int[] row : rows) {
            GridConverter x = new GridConverter();
            x.sample(row[0], row[1], row[2]);
            due.same("m of b - c = " + (row[1] - row[2]), x.signal(M), row[3]);
            due.same("error of b - c = " + (row[1] - row[2]), x.signal(ERROR), row[4]);
        }
    }

    /** "the greatest whole number whose square is not above a number": of 0, a square, one less than a square. */
    private static void rootNotAbove(Due due) {
        int[][] rows = {{0, 0, 0, 0}, {1, 1, 1, 0}, {1, 0, 0, 2}, {6, 4, 0, 10}, {11, 4, 0, 18}, {0, 1, 0, 1},
            {32767, -32768, -32768, 131070}, {-32768, 32767, 32767, 131070}, {32767, -32768, 32767, 131091},
            {-32768, 32767, -32768, 131090}};
        for (int[] row : rows) {
            GridConverter x = new GridConverter();
            x.sample(row[0], row[1], row[2]);
            due.same("m of " + row[0] + ", " + row[1] + ", " + row[2], x.signal(M), row[3]);
        }
    }

    /** 5000 * 5000 less 3000 * 3000 is a square; of the greatest limits the roots are the greatest. */
    private static void restRootNotAbove(Due due) {
        int[][] rows = {{5000, 0, 5000}, {5000, 2999, 4000}, {5000, 3000, 4000}, {5000, 3001, 3999}, {5000, 4999, 99},
            {5000, 5000, 0}, {20000, 0, 20000}, {20000, 1, 19999}, {20000, 19999, 199}, {20000, 20000, 0}, {0, 0, 0},
            {1, 0, 1}, {1, 1, 0}};
        for (int[] row : rows) {
            GridConverter x = Ready.lenient();
            x.set(0, row[0]);
            x.set(1, 2000);
            x.set(9, 1);
            Ready.wished(x);
            x.power(20000, row[1]);
            Ready.zeros(x, 10);
            due.same("limit " + row[0] + ", reactive " + row[1], x.state(Ready.ACTIVE), row[2]);
        }
    }

    /**
     * "with u the lowest fifteen of its highest sixteen bits .. negative when its highest bit is 1": the angles at
     * which u is 0, 1 and 32767, as errors of a loop that stands across them; zeros, jump, m and error.
     */
    private static void sineOfTheHighestBits(Due due) {
        int[][] rows = {
            {35, -1073741824, 50459, -8355}, {35, -1073676289, 50459, -8355}, {35, -1073676288, 50459, -8356},
            {35, 1073676287, 50458, 8353}, {35, 1073676288, 50458, 8354}, {35, 1073741823, 50458, 8355},
            {35, 1073741824, 50458, 8355}, {35, 1073807359, 50458, 8355}, {35, 1073807360, 50458, 8356},
            {35, -1073807361, 50459, -8353}, {35, -1073807360, 50459, -8354}, {35, -1073741825, 50459, -8355},
            {51, -1073741824, 50459, 646}, {51, -1073676289, 50459, 646}, {51, -1073676288, 50459, 646},
            {51, 1073676287, 50458, -649}, {51, 1073676288, 50458, -648}, {51, 1073741823, 50458, -647},
            {51, 1073741824, 50458, -646}, {51, 1073807359, 50458, -646}, {51, 1073807360, 50458, -646},
            {51, -1073807361, 50459, 649}, {51, -1073807360, 50459, 648}, {51, -1073741825, 50459, 647}};
        for (int[] row : rows) {
            GridConverter x = new GridConverter();
            Ready.zeros(x, row[0]);
            x.grid(16384, 50000, row[1]);
            x.run(1);
            due.same("m at " + row[1], x.signal(M), row[2]);
            due.same("error at " + row[1], x.signal(ERROR), row[3]);
        }
    }

    /** Zeros, the angle that they lead to, and the errors of a sample along a and of one across it. */
    private static void sineOfTheLoop(Due due) {
        int[][] rows = {
            {0, 0, 0, 16383}, {1, 21474836, -646, 16376}, {50, 1073741800, -16382, 0}, {99, 2126008764, -648, -16376},
            {100, 2147483600, 0, -16382}, {101, -2126008860, 646, -16376}, {150, -1073741896, 16382, 0},
            {199, -21474932, 648, 16376}, {200, -96, 0, 16382}, {201, 21474740, -646, 16376}};
        for (int[] row : rows) {
            GridConverter x = new GridConverter();
            Ready.zeros(x, row[0]);
            due.same("the angle after " + row[0], x.signal(0), row[1]);
            x.sample(16000, -8000, -8000);
            due.same("along it", x.signal(ERROR), row[2]);
            GridConverter y = new GridConverter();
            Ready.zeros(y, row[0]);
            y.sample(0, 9000, -9000);
            due.same("across it", y.signal(ERROR), row[3]);
        }
    }

    /** "all such numbers wrap": the angles at which the phase b or c is just 1 or -1; jump, m and error. */
    private static void phasesWrap(Due due) {
        int[][] rows = {
            {1431655764, 0, 0}, {1431655765, 1, 8192}, {1431721300, 1, 8192}, {1431721301, 0, 0},
            {-1431655766, 0, 0}, {-1431655765, 2, -10922}, {-1431590230, 2, -10922}, {-1431590229, 0, 0},
            {715827882, 0, 0}, {715827883, 1, 8192}, {-715827884, 0, 0}, {-715827883, 2, -10922}};
        for (int[] row : rows) {
            GridConverter x = after(1, row[0]);
            due.same("m at " + row[0], x.signal(M), row[1]);
            due.same("error at " + row[0], x.signal(ERROR), row[2]);
        }
    }

    private static GridConverter after(int amplitude, int jump) {
        GridConverter x = new GridConverter();
        x.grid(amplitude, 50000, jump);
        x.run(1);
        return x;
    }
}

/** "Of several exceptions the one that a call names first is thrown; a call that throws changes nothing." */
public final class RefusedTest {
    private static final int LEAST_INT = Integer.MIN_VALUE;
    private static final int GREATEST_INT = Integer.MAX_VALUE;
    private static final int[] LEAST = {0, 1, 1, 0, 0, 40000, 40000, 40000, 0, 0, 0, 1};
    private static final int[] GREATEST = {20000, 2000, 500, 20000, 20000, 70000, 70000, 70000, 2000, 1, 100, 200};

    private interface Placing {
        void place(GridConverter x, int k, int kind, int level, int time);
    }

    public static void main(String[] args) {
        Due due = new Due("RefusedTest");
        statesAreAsTheySay(due);
        Refusal[] everywhere = {
            new Refusal(due, "new: ", GridConverter::new), new Refusal(due, "off: ", SetUp::off),
            new Refusal(due, "wished: ", SetUp::wished), new Refusal(due, "closed: ", SetUp::closed),
            new Refusal(due, "locked: ", SetUp::lockedSeenOpen)};
        for (Refusal r : everywhere) {
            wrongSettings(r);
            wrongPoints(r, "curve", 6, GridConverter::curve);
            wrongPoints(r, "stay", 4, GridConverter::stay);
            wrongPowers(r);
            wrongSamples(r);
            wrongGrids(r);
            wrongRuns(r);
            wrongQuestions(r);
        }
        whenOnIsWished(everywhere[2]);
        whenOnIsWished(everywhere[3]);
        whenThereIsNoGrid(everywhere[0]);
        onIsRefused(due, everywhere[0], everywhere[4]);
        nothingIsDone(due, everywhere);
        due.end();
    }

    /** Ordered, seen, wished, locked, checked, missed: else the calls below would be made elsewhere than they say. */
    private static void statesAreAsTheySay(Due due) {
        GridConverter[] objects = {SetUp.off(), SetUp.unchecked(), SetUp.wished(), SetUp.closed(),
            SetUp.lockedSeenClosed(), SetUp.lockedSeenOpen()};
        int[][] rows = {{0, 0, 0, 0, 1, 0}, {0, 0, 0, 0, 0, 0}, {0, 0, 1, 0, 1, 0}, {1, 0, 1, 0, 1, 2},
            {0, 1, 0, 1, 1, 2}, {0, 0, 0, 1, 1, 2}};
        for (int i = 0; i < rows.length; i++) {
            for (int what = 0; what < rows[i].length; what++) {
                due.same("object " + i + ": state(" + what + ")", objects[i].state(what), rows[i][what]);
            }
            due.same("object " + i + ": a curve counts", objects[i].count(5) > 0, true);
        }
    }

    /** The index is named first: a value that is wrong too, or on that is wished, makes no difference. */
    private static void wrongSettings(Refusal r) {
        int[] wrong = {-1, 12, LEAST_INT, GREATEST_INT};
        for (int i : wrong) {
            r.index("set(" + i + ", 1)", x -> x.set(i, 1));
            r.index("set(" + i + ", -1)", x -> x.set(i, -1));
        }
        for (int i = 0; i < LEAST.length; i++) {
            int one = i;
            int[] values = {LEAST[i] - 1, GREATEST[i] + 1, LEAST_INT, GREATEST_INT};
            for (int value : values) {
                r.argument("set(" + i + ", " + value + ")", x -> x.set(one, value));
            }
        }
    }

    /** "For kind 0 these must be right, too." */
    private static void wrongPoints(Refusal r, String name, int many, Placing p) {
        int[] wrong = {-1, many, LEAST_INT, GREATEST_INT};
        for (int k : wrong) {
            r.index(name + "(" + k + ", 1, 1, 1)", x -> p.place(x, k, 1, 1, 1));
            r.index(name + "(" + k + ", 5, -1, 0)", x -> p.place(x, k, 5, -1, 0));
        }
        int[][] arguments = {
            {-1, 1, 1}, {5, 1, 1}, {LEAST_INT, 1, 1}, {GREATEST_INT, 1, 1}, {1, LEAST_INT, 1}, {1, GREATEST_INT, 1},
            {1, 1, LEAST_INT}, {1, 1, GREATEST_INT}, {0, -1, 1}, {0, 100001, 1}, {0, 1, 0}, {0, 1, 1001},
            {1, -1, 1}, {1, 100001, 1}, {1, 1, 0}, {1, 1, 1001}, {2, -1, 1}, {2, 100001, 1}, {2, 1, 0}, {2, 1, 1001},
            {3, -1, 1}, {3, 100001, 1}, {3, 1, 0}, {3, 1, 1001}, {4, -1, 1}, {4, 100001, 1}, {4, 1, 0}, {4, 1, 1001}};
        for (int i = 0; i < arguments.length; i++) {
            int[] a = arguments[i];
            int k = i % many;
            r.argument(name + "(" + k + ", " + a[0] + ", " + a[1] + ", " + a[2] + ")",
                x -> p.place(x, k, a[0], a[1], a[2]));
        }
    }

    private static void wrongPowers(Refusal r) {
        int[][] powers = {
            {-1, 5}, {20001, 5}, {5, -20001}, {5, 20001}, {LEAST_INT, 5}, {GREATEST_INT, 5}, {5, LEAST_INT},
            {5, GREATEST_INT}};
        for (int[] p : powers) {
            r.argument("power(" + p[0] + ", " + p[1] + ")", x -> x.power(p[0], p[1]));
        }
    }

    private static void wrongSamples(Refusal r) {
        int[] wrong = {-32769, 32768, LEAST_INT, GREATEST_INT};
        for (int v : wrong) {
            r.argument("sample(" + v + ", 1, 1)", x -> x.sample(v, 1, 1));
            r.argument("sample(1, " + v + ", 1)", x -> x.sample(1, v, 1));
            r.argument("sample(1, 1, " + v + ")", x -> x.sample(1, 1, v));
        }
    }

    private static void wrongGrids(Refusal r) {
        int[][] grids = {
            {-1, 60000}, {20001, 60000}, {5, 39999}, {5, 70001}, {LEAST_INT, 60000}, {GREATEST_INT, 60000},
            {5, LEAST_INT}, {5, GREATEST_INT}};
        for (int[] g : grids) {
            r.argument("grid(" + g[0] + ", " + g[1] + ", 1 << 30)", x -> x.grid(g[0], g[1], 1 << 30));
        }
    }

    /** Without a grid, too: the argument is named before it. */
    private static void wrongRuns(Refusal r) {
        int[] wrong = {0, -1, 501, LEAST_INT, GREATEST_INT};
        for (int n : wrong) {
            r.argument("run(" + n + ")", x -> x.run(n));
        }
    }

    private static void wrongQuestions(Refusal r) {
        int[] wrong = {-1, LEAST_INT, GREATEST_INT};
        for (int what : wrong) {
            r.index("signal(" + what + ")", x -> x.signal(what));
            r.index("state(" + what + ")", x -> x.state(what));
            r.index("count(" + what + ")", x -> x.count(what));
            r.index("event(" + what + ", 0)", x -> x.event(what, 0));
            r.index("event(0, " + what + ")", x -> x.event(0, what));
        }
        r.index("signal(6)", x -> x.signal(6));
        r.index("state(12)", x -> x.state(12));
        r.index("count(6)", x -> x.count(6));
        r.index("event(0, 2)", x -> x.event(0, 2));
        r.index("event(16, 0)", x -> x.event(16, 0));
        r.index("event(how many there were, 0)", x -> x.event(x.state(Ready.EVENTS), 0));
    }

    private static void whenOnIsWished(Refusal r) {
        for (int i = 0; i < LEAST.length; i++) {
            int one = i;
            r.state("set(" + i + ", its least)", x -> x.set(one, LEAST[one]));
            r.state("set(" + i + ", its greatest)", x -> x.set(one, GREATEST[one]));
        }
        for (int k = 0; k < 6; k++) {
            int one = k;
            r.state("curve(" + k + ", 0, 0, 1)", x -> x.curve(one, 0, 0, 1));
            r.state("curve(" + k + ", 4, 100000, 1000)", x -> x.curve(one, 4, 100000, 1000));
        }
        for (int k = 0; k < 4; k++) {
            int one = k;
            r.state("stay(" + k + ", 0, 0, 1)", x -> x.stay(one, 0, 0, 1));
            r.state("stay(" + k + ", 4, 100000, 1000)", x -> x.stay(one, 4, 100000, 1000));
        }
    }

    private static void whenThereIsNoGrid(Refusal r) {
        r.state("run(1)", x -> x.run(1));
        r.state("run(500)", x -> x.run(500));
    }

    private static void onIsRefused(Due due, Refusal fresh, Refusal locked) {
        fresh.state("on() when it is not checked", GridConverter::on);
        locked.state("on() when it is locked", GridConverter::on);
        new Refusal(due, "no more checked: ", SetUp::unchecked).state("on()", GridConverter::on);
        new Refusal(due, "neither checked nor unlocked: ", RefusedTest::lockedUnchecked).state("on()",
            GridConverter::on);
        new Refusal(due, "checked in vain: ", RefusedTest::checkedInVain).state("on()", GridConverter::on);
    }

    private static GridConverter lockedUnchecked() {
        GridConverter x = SetUp.lockedSeenOpen();
        x.set(0, 9000);
        return x;
    }

    private static GridConverter checkedInVain() {
        GridConverter x = SetUp.off();
        x.curve(0, 1, 701, 5);
        x.check();
        return x;
    }

    /** "false, and nothing is done, when it is not locked, or the contactor is seen closed"; and like answers. */
    private static void nothingIsDone(Due due, Refusal[] everywhere) {
        for (int i = 0; i < 4; i++) {
            everywhere[i].idle("reset() when it is not locked", GridConverter::reset);
            due.same("reset() when it is not locked", SetUp.closed().reset(), false);
        }
        Refusal seenClosed = new Refusal(due, "locked, seen closed: ", SetUp::lockedSeenClosed);
        seenClosed.idle("reset()", GridConverter::reset);
        due.same("reset() when it is seen closed", SetUp.lockedSeenClosed().reset(), false);
        everywhere[2].idle("on() again", GridConverter::on);
        everywhere[3].idle("on() again", GridConverter::on);
        everywhere[0].idle("off() when it is off", GridConverter::off);
        everywhere[1].idle("off() when it is off", GridConverter::off);
        everywhere[4].idle("off() when it is locked", GridConverter::off);
        for (Refusal r : everywhere) {
            r.idle("all questions", Picture::of);
        }
    }
}

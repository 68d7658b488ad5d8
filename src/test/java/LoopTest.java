import java.util.Arrays;

/** Promises 11 (sample), 14 (signal) and 15 (state), and point 1 of a step. */
public final class LoopTest {
    public static void main(String[] args) {
        Due due = new Due("LoopTest");
        sampleBounds(due);
        samplesAtTheBounds(due);
        firstStep(due);
        roundsDown(due);
        meansOfVoltage(due);
        meansOfFrequency(due);
        integralHasBounds(due);
        angleWraps(due);
        latestSixteen(due);
        latestThirtyTwo(due);
        whats(due);
        due.end();
    }

    private static void sampleBounds(Due due) {
        GridConverter x = new GridConverter();
        due.argument("a below", () -> x.sample(-32769, 0, 0));
        due.argument("a above", () -> x.sample(32768, 0, 0));
        due.argument("b below", () -> x.sample(0, -32769, 0));
        due.argument("b above", () -> x.sample(0, 32768, 0));
        due.argument("c below", () -> x.sample(0, 0, -32769));
        due.argument("c above", () -> x.sample(0, 0, 32768));
        due.same("no step", x.state(Ready.STEPS), 0);
        due.same("no angle", x.signal(0), 0);
        due.same("the edges", x.sample(-32768, 32767, -32768), 0);
        due.same("the greatest m", x.signal(5), 131090);
        due.same("the edges", x.sample(32767, -32768, 32767), 0);
        due.same("two steps", x.state(Ready.STEPS), 2);
    }

    /** "IllegalArgumentException, when one is not -32768 .. 32767": the ends are taken, one by one; their m. */
    private static void samplesAtTheBounds(Due due) {
        int[][] rows = {{-32768, 0, 0, 65536}, {32767, 0, 0, 65534}, {0, -32768, 0, 65546}, {0, 32767, 0, 65544},
            {0, 0, -32768, 65546}, {0, 0, 32767, 65545}};
        for (int[] row : rows) {
            GridConverter x = new GridConverter();
            due.same("an end of " + row[0] + ", " + row[1] + ", " + row[2], x.sample(row[0], row[1], row[2]), 0);
            due.same("m of it", x.signal(5), row[3]);
            due.same("one step", x.state(Ready.STEPS), 1);
        }
    }

    /** At the angle 0 the sine is 0 and the cosine 16384, so that the error is y * 16384 / (m + 1). */
    private static void firstStep(Due due) {
        GridConverter x = new GridConverter();
        x.sample(0, 1024, 0);
        due.same("m", x.signal(5), 2048);
        due.same("error", x.signal(4), 14185);
        due.same("integral", x.signal(3), 2 * 14185);
        due.same("angle", x.signal(0), 21474836 + 202 * 14185);
        due.same("voltage", x.signal(2), 42);
        long sum = 32L * 21474836 + 202 * 14185;
        due.same("frequency", x.signal(1), sum * 10000000 / 137438953472L);
        GridConverter y = new GridConverter();
        y.sample(1600, -800, -800);
        due.same("m of a alone", y.signal(5), 4800);
        due.same("error of a alone", y.signal(4), 0);
        due.same("angle of no error", y.signal(0), 21474836);
        y.sample(1600, -800, -800);
        long sine = 327L * (32768 - 327) / 16384;
        due.same("error at the second angle", y.signal(4), -4800 * sine / 4801);
    }

    private static void roundsDown(Due due) {
        GridConverter x = new GridConverter();
        x.sample(0, -1, 0);
        due.same("m of x = 1, y = -2", x.signal(5), 2);
        due.same("error towards 0", x.signal(4), -10922);
        due.same("integral", x.signal(3), -21844);
    }

    private static void meansOfVoltage(Due due) {
        GridConverter x = new GridConverter();
        x.sample(1600, -800, -800);
        due.same("one of sixteen", x.signal(2), 100);
        x.sample(800, -400, -400);
        due.same("two of sixteen", x.signal(2), 150);
        Ready.zeros(x, 14);
        due.same("sixteen", x.signal(2), 150);
        Ready.zeros(x, 1);
        due.same("without the first", x.signal(2), 50);
        Ready.zeros(x, 1);
        due.same("without both", x.signal(2), 0);
        GridConverter y = new GridConverter();
        y.sample(47, 23, 24);
        due.same("47 / 48", y.signal(2), 0);
        y.sample(1, 1, 0);
        due.same("49 / 48", y.signal(2), 1);
    }

    private static void meansOfFrequency(Due due) {
        GridConverter x = new GridConverter();
        x.sample(0, 1024, 0);
        Ready.zeros(x, 31);
        due.same("error of nothing", x.signal(4), 0);
        long pace = 21474836 + 2 * 14185;
        due.same("32 paces", x.signal(1), (pace * 32 + 200 * 14185) * 10000000 / 137438953472L);
        Ready.zeros(x, 1);
        due.same("without the first", x.signal(1), pace * 32 * 10000000 / 137438953472L);
        due.same("integral kept", x.signal(3), 2 * 14185);
    }

    /** "The INTEGRAL grows by 2 e, but it stays -4000000 .. 4000000": samples that lead it there, and back again. */
    private static void integralHasBounds(Due due) {
        for (int sign = -1; sign <= 1; sign += 2) {
            GridConverter x = new GridConverter();
            for (int i = 0; i < 115; i++) {
                push(x, sign);
            }
            due.same("not at its bound yet", x.signal(3) * sign < 4000000, true);
            towardsBound(due, x, sign);
            int angle = x.signal(0);
            push(x, sign);
            due.same("integral at its bound", x.signal(3), sign * 4000000);
            int pace = 21474836 + sign * 4000000 + 200 * x.signal(4);
            due.same("pace at the bound", x.signal(0), angle + pace);
            push(x, -sign);
            due.same("away from its bound at once", x.signal(3), sign * 4000000 + 2 * x.signal(4));
            due.same("away", x.signal(3) * sign < 4000000, true);
        }
    }

    private static void towardsBound(Due due, GridConverter x, int sign) {
        int before = x.signal(3);
        for (int i = 0; i < 60; i++) {
            push(x, sign);
            int free = before + 2 * x.signal(4);
            int integral = x.signal(3);
            due.same("grows by 2 e as far as its bound", integral, sign * Math.min(4000000, sign * free));
            before = integral;
        }
        due.same("its bound", before, sign * 4000000);
    }

    /** "the angle grows by it (and wraps)". */
    private static void angleWraps(Due due) {
        int[][] rows = {{99, 2126008764}, {1, 2147483600}, {1, -2126008860}, {98, -21474932}, {1, -96}, {1, 21474740}};
        GridConverter x = new GridConverter();
        x.grid(0, 50000, 0);
        for (int[] row : rows) {
            x.run(row[0]);
            due.same("the angle after " + x.state(Ready.STEPS), x.signal(0), row[1]);
        }
        GridConverter y = new GridConverter();
        y.grid(0, 70000, 0);
        y.run(500);
        due.same("the angle of no voltage keeps its own pace", y.signal(0), (int) (500L * 21474836));
    }

    /** A sample some quarter of a turn ahead of the angle, or behind it. */
    private static void push(GridConverter x, int sign) {
        int quarter = (x.signal(0) + 536870912) >>> 30;
        int side = sign * 8000;
        switch (quarter) {
            case 0: x.sample(0, side, -side); break;
            case 1: x.sample(-side, side / 2, side / 2); break;
            case 2: x.sample(0, -side, side); break;
            default: x.sample(side, -side / 2, -side / 2); break;
        }
    }

    /** "the latest sixteen m (0 before the first)": each sample has an m of its own. */
    private static void latestSixteen(Due due) {
        GridConverter x = new GridConverter();
        long sum = 0;
        for (int i = 1; i <= 32; i++) {
            x.sample(1000 * i, 0, 0);
            sum += 2000 * i;
            sum -= i > 16 ? 2000 * (i - 16) : 0;
            due.same("m of step " + i, x.signal(5), 2000 * i);
            due.same("voltage of step " + i, x.signal(2), sum / 48);
        }
        for (int i = 17; i <= 32; i++) {
            x.sample(0, 0, 0);
            sum -= 2000 * i;
            due.same("voltage without m " + i, x.signal(2), sum / 48);
        }
        due.same("sixteen of nothing", x.signal(2), 0);
    }

    /** "the latest 32 paces (21474836 before the first)": the paces are what the angle grew by. */
    private static void latestThirtyTwo(Due due) {
        GridConverter x = new GridConverter();
        long[] paces = new long[32 + 70];
        Arrays.fill(paces, 21474836);
        for (int i = 0; i < 70; i++) {
            int before = x.signal(0);
            x.sample(0, i % 7 * 100, i % 5 * 100);
            paces[32 + i] = x.signal(0) - before;
            long sum = 0;
            for (int k = 0; k < 32; k++) {
                sum += paces[1 + i + k];
            }
            due.same("frequency of step " + i, x.signal(1), sum * 10000000 / 137438953472L);
        }
    }

    private static void whats(Due due) {
        GridConverter x = new GridConverter();
        x.sample(300, 200, -100);
        due.same("signal(0), the least", x.signal(0), 23857022);
        due.same("signal(5), the greatest", x.signal(5), 720);
        due.same("state(0), the least", x.state(0), 0);
        due.same("state(11), the greatest", x.state(11), 0);
        due.index("signal(-1)", () -> x.signal(-1));
        due.index("signal(6)", () -> x.signal(6));
        due.index("state(-1)", () -> x.state(-1));
        due.index("state(12)", () -> x.state(12));
        Ready.zeros(x, 3);
        due.same("steps", x.state(Ready.STEPS), 4);
    }
}

/** Promises 10 (power), 17 (energy) and the answer of 11 (sample): points 5 and 6 of a step. */
public final class CommandsTest {
    public static void main(String[] args) {
        Due due = new Due("CommandsTest");
        powerBounds(due);
        ramps(due);
        limits(due);
        limitsOldWish(due);
        priorities(due);
        droops(due);
        slopes(due);
        energies(due);
        energyOfTheActiveCommand(due);
        powersAtTheirEnds(due);
        nearerByAtMostRamp(due);
        targetNotBelowNothing(due);
        targetNotAboveLimit(due);
        reactiveWishLimited(due);
        sumIsLimited(due);
        reactiveLimitedByActive(due);
        activeLimitedByReactive(due);
        droopAboveItsFrequency(due);
        openMeansNothing(due);
        due.end();
    }

    private static GridConverter with(int... settings) {
        GridConverter x = Ready.lenient();
        for (int i = 0; i < settings.length; i += 2) {
            x.set(settings[i], settings[i + 1]);
        }
        return Ready.wished(x);
    }

    private static void powerBounds(Due due) {
        GridConverter x = with(0, 20000, 1, 2000);
        x.power(300, 400);
        due.argument("power(-1, 0)", () -> x.power(-1, 0));
        due.argument("power(20001, 0)", () -> x.power(20001, 0));
        due.argument("power(0, -20001)", () -> x.power(0, -20001));
        due.argument("power(0, 20001)", () -> x.power(0, 20001));
        due.same("the power as it was", x.sample(0, 0, 0), 65536 * 300 + 400);
        x.power(0, 20000);
        due.same("the greatest reactive one", x.sample(0, 0, 0), 20000);
        x.power(0, -20000);
        due.same("the least reactive one", x.sample(0, 0, 0), -20000);
        x.power(20000, 0);
        Ready.zeros(x, 9);
        due.same("the greatest active one", x.sample(0, 0, 0), 65536 * 20000);
        x.power(20000, -300);
        due.same("no room for the other", x.sample(0, 0, 0), 65536 * 20000);
        x.power(2000, -300);
        Ready.zeros(x, 9);
        due.same("both", x.sample(0, 0, 0), 65536 * 2000 - 300);
    }

    private static void ramps(Due due) {
        GridConverter x = with(1, 70);
        x.power(150, 0);
        int[] wishes = {70, 140, 150, 150};
        for (int want : wishes) {
            x.sample(0, 0, 0);
            due.same("up", x.state(Ready.WISH), want);
            due.same("up", x.state(Ready.ACTIVE), want);
        }
        x.power(5, 0);
        int[] falling = {80, 10, 5, 5};
        for (int want : falling) {
            x.sample(0, 0, 0);
            due.same("down", x.state(Ready.WISH), want);
        }
    }

    private static void limits(Due due) {
        GridConverter x = with(0, 250);
        x.power(20000, 20000);
        int[] wishes = {100, 200, 250, 250};
        int[] reactive = {229, 150, 0, 0};
        for (int i = 0; i < wishes.length; i++) {
            x.sample(0, 0, 0);
            due.same("the wish", x.state(Ready.WISH), wishes[i]);
            due.same("reactive", x.state(Ready.REACTIVE), reactive[i]);
        }
        x.power(200, -20000);
        x.sample(0, 0, 0);
        due.same("reactive, the other way", x.state(Ready.REACTIVE), -150);
        GridConverter none = with(0, 0, 1, 2000);
        none.power(20000, -20000);
        due.same("a limit of nothing", none.sample(0, 0, 0), 0);
    }

    /** A wish outlives off(), set() and on(), so that it can be above a new limit. */
    private static void limitsOldWish(Due due) {
        GridConverter x = with(1, 2000);
        x.power(2000, 0);
        x.sample(0, 0, 0);
        x.off();
        x.set(0, 500);
        x.set(1, 100);
        Ready.wished(x);
        due.same("active", x.sample(0, 0, 0), 65536 * 500);
        due.same("the wish", x.state(Ready.WISH), 1900);
        x.off();
        x.set(9, 1);
        Ready.wished(x);
        x.power(0, 300);
        due.same("active beside reactive", x.sample(0, 0, 0), 65536 * 400 + 300);
        due.same("the wish", x.state(Ready.WISH), 1800);
    }

    private static void priorities(Due due) {
        GridConverter x = with(0, 5000, 1, 2000, 9, 1);
        x.power(20000, -3000);
        Ready.zeros(x, 3);
        due.same("active at most what is left", x.state(Ready.ACTIVE), 4000);
        due.same("reactive", x.state(Ready.REACTIVE), -3000);
        due.same("the wish", x.state(Ready.WISH), 5000);
        x.power(20000, 3001);
        x.sample(0, 0, 0);
        due.same("the root is rounded down", x.state(Ready.ACTIVE), 3999);
        x.power(1000, 20000);
        Ready.zeros(x, 3);
        due.same("nothing is left", x.state(Ready.ACTIVE), 0);
        due.same("reactive at the limit", x.state(Ready.REACTIVE), 5000);
        due.same("the wish", x.state(Ready.WISH), 1000);
        x.power(1000, -20000);
        x.sample(0, 0, 0);
        due.same("reactive at the limit", x.state(Ready.REACTIVE), -5000);
        GridConverter y = with(0, 5000, 1, 2000);
        y.power(4000, 20000);
        Ready.zeros(y, 3);
        due.same("active first", y.state(Ready.ACTIVE), 4000);
        due.same("reactive what is left", y.state(Ready.REACTIVE), 3000);
    }

    /** The frequency of nothing is 49999. */
    private static void droops(Due due) {
        int[][] rows = {
            {49999, 500, 1500}, {49900, 500, 1500}, {49899, 500, 1000}, {49800, 500, 1000}, {49799, 500, 500},
            {49699, 500, 0}, {49599, 500, 0}, {40000, 2000, 0}, {50200, 500, 1500}, {70000, 2000, 1500},
            {49899, 0, 1500}, {40000, 15, 15}};
        for (int[] row : rows) {
            GridConverter x = with(1, 2000, 7, row[0], 8, row[1]);
            x.power(1500, 0);
            x.sample(0, 0, 0);
            due.same("droop " + row[1] + " from " + row[0], x.state(Ready.ACTIVE), row[2]);
        }
        GridConverter y = with(0, 1200, 1, 2000, 7, 49899, 8, 500);
        y.power(1500, 0);
        y.sample(0, 0, 0);
        due.same("drooped before it is limited", y.state(Ready.ACTIVE), 1000);
    }

    private static void slopes(Due due) {
        GridConverter x = with(10, 3);
        x.power(0, -100);
        x.sample(0, 0, 0);
        due.same("far under", x.state(Ready.REACTIVE), 200);
        Ready.sixteen(x, 9966);
        due.same("little under", x.state(Ready.REACTIVE), -99);
        Ready.sixteen(x, 10000);
        due.same("none", x.state(Ready.REACTIVE), -100);
        Ready.sixteen(x, 10033);
        due.same("rounded towards 0", x.state(Ready.REACTIVE), -100);
        Ready.sixteen(x, 10034);
        due.same("little over", x.state(Ready.REACTIVE), -101);
        x.power(0, 20000);
        x.sample(0, 0, 0);
        due.same("limited above", x.state(Ready.REACTIVE), 10000);
        x.power(0, -20000);
        x.sample(0, 0, 0);
        due.same("limited below", x.state(Ready.REACTIVE), -10000);
    }

    private static void energies(Due due) {
        GridConverter x = with();
        x.power(150, 20);
        x.sample(1600, -800, -800);
        due.same("after one step", x.energy(), 100 * 100);
        x.sample(0, 0, 0);
        due.same("after two", x.energy(), 100 * 100 + 150 * 100);
        x.off();
        due.same("after off()", x.energy(), 25000);
        x.sample(0, 0, 0);
        due.same("open", x.energy(), 25000);
        GridConverter y = with(0, 20000, 1, 2000);
        y.power(20000, 0);
        y.grid(20000, 50000, 0);
        y.run(500);
        due.same("beyond an int", y.energy() > 190000000000L, true);
    }

    /** "The ENERGY (a long) grows by active * voltage": not by the wish, which can be more, nor by the reactive one. */
    private static void energyOfTheActiveCommand(Due due) {
        GridConverter x = with(0, 5000, 1, 2000, 9, 1);
        x.power(2000, 4900);
        x.sample(1600, -800, -800);
        due.same("the wish", x.state(Ready.WISH), 2000);
        due.same("active", x.state(Ready.ACTIVE), 994);
        due.same("energy", x.energy(), 994 * 100);
        x.power(2000, 5000);
        x.sample(0, 0, 0);
        due.same("no active one, no energy", x.energy(), 994 * 100);
    }

    /** "Sets the power (0 .. 20000) and the reactive one (-20000 .. 20000)": the ends are taken. */
    private static void powersAtTheirEnds(Due due) {
        int[][] rows = {{0, -20000, -20000}, {0, 20000, 20000}, {20000, 0, 65536 * 20000}, {0, 0, 0},
            {20000, 20000, 65536 * 20000}, {20000, -20000, 65536 * 20000}};
        for (int[] row : rows) {
            GridConverter x = with(0, 20000, 1, 2000);
            x.power(row[0], row[1]);
            Ready.zeros(x, 9);
            due.same("power(" + row[0] + ", " + row[1] + ")", x.sample(0, 0, 0), row[2]);
        }
    }

    /** "the wish comes nearer to it by at most RAMP": RAMP, the power, steps to get there, another, the next wish. */
    private static void nearerByAtMostRamp(Due due) {
        int[][] rows = {
            {1, 3, 3, 3, 3}, {1, 3, 3, 4, 4}, {1, 3, 3, 5, 4}, {1, 3, 3, 2, 2}, {1, 3, 3, 1, 2}, {1, 3, 3, 0, 2},
            {2000, 4000, 2, 5999, 5999}, {2000, 4000, 2, 6000, 6000}, {2000, 4000, 2, 6001, 6000},
            {2000, 4000, 2, 2001, 2001}, {2000, 4000, 2, 2000, 2000}, {2000, 4000, 2, 1999, 2000},
            {2000, 4000, 2, 0, 2000}, {2000, 1, 1, 0, 0}};
        for (int[] row : rows) {
            GridConverter x = with(1, row[0]);
            x.power(row[1], 0);
            Ready.zeros(x, row[2]);
            due.same("the wish", x.state(Ready.WISH), row[1]);
            x.power(row[3], 0);
            due.same("the wish until the next step", x.state(Ready.WISH), row[1]);
            x.sample(0, 0, 0);
            due.same("by " + row[0] + " from " + row[1] + " to " + row[3], x.state(Ready.WISH), row[4]);
        }
    }

    /** The droop is 500 at the frequency of nothing. */
    private static void targetNotBelowNothing(Due due) {
        int[][] rows = {{502, 2}, {501, 1}, {500, 0}, {499, 0}, {0, 0}};
        for (int[] row : rows) {
            GridConverter x = with(1, 2000, 7, 49899, 8, 500);
            x.power(row[0], 0);
            x.sample(0, 0, 0);
            due.same("drooped from " + row[0], x.state(Ready.WISH), row[1]);
        }
    }

    /** A limit, a power, and the wish. */
    private static void targetNotAboveLimit(Due due) {
        int[][] rows = {{1500, 1499, 1499}, {1500, 1500, 1500}, {1500, 1501, 1500}, {0, 0, 0}, {0, 1, 0}, {1, 2, 1},
            {20000, 19999, 19999}, {20000, 20000, 20000}, {19999, 20000, 19999}};
        for (int[] row : rows) {
            for (int priority = 0; priority < 2; priority++) {
                GridConverter x = with(0, row[0], 1, 2000, 9, priority);
                x.power(row[1], 0);
                Ready.zeros(x, 11);
                due.same("the wish " + row[1] + " of " + row[0], x.state(Ready.WISH), row[2]);
                due.same("active " + row[1] + " of " + row[0], x.state(Ready.ACTIVE), row[2]);
            }
        }
    }

    /** "limited to -LIMIT .. LIMIT", for both ways of PRIORITY. */
    private static void reactiveWishLimited(Due due) {
        int[][] rows = {{1500, 1499, 1499}, {1500, 1500, 1500}, {1500, 1501, 1500}, {1500, -1499, -1499},
            {1500, -1500, -1500}, {1500, -1501, -1500}, {0, 1, 0}, {0, -1, 0}, {20000, 20000, 20000},
            {20000, -20000, -20000}, {19999, 20000, 19999}, {19999, -20000, -19999}};
        for (int[] row : rows) {
            for (int priority = 0; priority < 2; priority++) {
                GridConverter x = with(0, row[0], 9, priority);
                x.power(0, row[1]);
                x.sample(0, 0, 0);
                due.same("reactive " + row[1] + " of " + row[0], x.state(Ready.REACTIVE), row[2]);
            }
        }
    }

    /** The slope of a voltage of 0 is 10000 at most: it is limited together with what was set. */
    private static void sumIsLimited(Due due) {
        int[][] rows = {{100, -12000, -2000}, {100, -14999, -4999}, {100, -15000, -5000}, {100, -15001, -5000},
            {100, -5001, 4999}, {100, -5000, 5000}, {100, -4999, 5000}, {1, 0, 100}, {0, 0, 0}};
        for (int[] row : rows) {
            GridConverter x = with(0, 5000, 10, row[0]);
            x.power(0, row[1]);
            x.sample(0, 0, 0);
            due.same("slope " + row[0] + " and " + row[1], x.state(Ready.REACTIVE), row[2]);
        }
        GridConverter y = with(0, 20000, 10, 100);
        y.power(0, 20000);
        for (int i = 0; i < 16; i++) {
            y.sample(32767, -32768, -32768);
        }
        due.same("the greatest voltage", y.signal(Ready.VOLTAGE), 43690);
        due.same("its slope", y.state(Ready.REACTIVE), 20000 + 10000 - 43690);
    }

    /** "By PRIORITY 0 .. limited (both ways) to the root": of 5000 with 3000 there are 4000 left. */
    private static void reactiveLimitedByActive(Due due) {
        int[][] rows = {{3999, 3999}, {4000, 4000}, {4001, 4000}, {-3999, -3999}, {-4000, -4000}, {-4001, -4000},
            {5000, 4000}, {5001, 4000}, {-20000, -4000}, {20000, 4000}};
        for (int[] row : rows) {
            GridConverter x = with(0, 5000, 1, 2000, 9, 0);
            x.power(3000, row[0]);
            Ready.zeros(x, 2);
            due.same("active goes first", x.state(Ready.ACTIVE), 3000);
            due.same("reactive " + row[0], x.state(Ready.REACTIVE), row[1]);
        }
    }

    /** "by 1 the reactive one is its wish, and the active one the wish, at most the root". */
    private static void activeLimitedByReactive(Due due) {
        int[][] rows = {{3999, 3000, 3999}, {4000, 3000, 4000}, {4001, 3000, 4000}, {3999, -3000, 3999},
            {4000, -3000, 4000}, {4001, -3000, 4000}, {5000, 5000, 0}, {5000, -5000, 0}, {5000, -5001, 0}};
        for (int[] row : rows) {
            GridConverter x = with(0, 5000, 1, 2000, 9, 1);
            x.power(row[0], row[1]);
            Ready.zeros(x, 3);
            due.same("the wish goes on", x.state(Ready.WISH), row[0]);
            due.same("reactive goes first", x.state(Ready.REACTIVE), Math.max(-5000, row[1]));
            due.same("active " + row[0], x.state(Ready.ACTIVE), row[2]);
        }
    }

    /** "when the frequency is above that": DROOP FROM, and the wish of 900 at 49999, at the ends of both settings. */
    private static void droopAboveItsFrequency(Due due) {
        int[][] rows = {{50000, 2000, 900}, {50099, 2000, 900}, {50100, 2000, 900}, {70000, 2000, 900},
            {49999, 2000, 900}, {49900, 2000, 900}, {49899, 2000, 0}, {49899, 1, 899}, {40000, 0, 900},
            {40000, 1, 801}, {40000, 2000, 0}};
        for (int[] row : rows) {
            GridConverter x = with(1, 2000, 7, row[0], 8, row[1]);
            x.power(900, 0);
            x.sample(0, 0, 0);
            due.same("droop " + row[1] + " from " + row[0], x.state(Ready.WISH), row[2]);
        }
    }

    /** "Ordered open: the WISH and both commands are 0": in the very step in which a curve opens it. */
    private static void openMeansNothing(Due due) {
        GridConverter x = Ready.lenient();
        x.curve(0, 1, 1, 1);
        Ready.wished(x);
        x.power(150, -70);
        x.sample(1600, -800, -800);
        Ready.zeros(x, 15);
        due.same("the wish", x.state(Ready.WISH), 150);
        due.same("active", x.state(Ready.ACTIVE), 150);
        due.same("reactive", x.state(Ready.REACTIVE), -70);
        long energy = x.energy();
        due.same("the sample that opens", x.sample(0, 0, 0), 0);
        due.same("no wish", x.state(Ready.WISH), 0);
        due.same("no active one", x.state(Ready.ACTIVE), 0);
        due.same("no reactive one", x.state(Ready.REACTIVE), 0);
        due.same("no energy", x.energy(), energy);
        due.same("anew from 0", x.sample(1600, -800, -800), 65536 * 100 - 70);
    }
}

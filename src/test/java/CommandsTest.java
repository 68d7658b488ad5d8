/** Promises 10 (power), 17 (energy) and the answer of 11 (sample): points 5 and 6 of a step. */
public final class CommandsTest {
    public static void main(String[] args) {
        Due due = new Due("CommandsTest");
        powerBounds(due);
        ramps(due);
        limits(due);
        limitsOldWish(due);
        priorities(due);
        droops(due);
        slopes(due);
        energies(due);
        due.end();
    }

    private static GridConverter with(int... settings) {
        GridConverter x = Ready.lenient();
        for (int i = 0; i < settings.length; i += 2) {
            x.set(settings[i], settings[i + 1]);
        }
        return Ready.wished(x);
    }

    private static void powerBounds(Due due) {
        GridConverter x = with(0, 20000, 1, 2000);
        x.power(300, 400);
        due.argument("power(-1, 0)", () -> x.power(-1, 0));
        due.argument("power(20001, 0)", () -> x.power(20001, 0));
        due.argument("power(0, -20001)", () -> x.power(0, -20001));
        due.argument("power(0, 20001)", () -> x.power(0, 20001));
        due.same("the power as it was", x.sample(0, 0, 0), 65536 * 300 + 400);
        x.power(0, 20000);
        due.same("the greatest reactive one", x.sample(0, 0, 0), 20000);
        x.power(0, -20000);
        due.same("the least reactive one", x.sample(0, 0, 0), -20000);
        x.power(20000, 0);
        Ready.zeros(x, 9);
        due.same("the greatest active one", x.sample(0, 0, 0), 65536 * 20000);
        x.power(20000, -300);
        due.same("no room for the other", x.sample(0, 0, 0), 65536 * 20000);
        x.power(2000, -300);
        Ready.zeros(x, 9);
        due.same("both", x.sample(0, 0, 0), 65536 * 2000 - 300);
    }

    private static void ramps(Due due) {
        GridConverter x = with(1, 70);
        x.power(150, 0);
        int[] wishes = {70, 140, 150, 150};
        for (int want : wishes) {
            x.sample(0, 0, 0);
            due.same("up", x.state(Ready.WISH), want);
            due.same("up", x.state(Ready.ACTIVE), want);
        }
        x.power(5, 0);
        int[] falling = {80, 10, 5, 5};
        for (int want : falling) {
            x.sample(0, 0, 0);
            due.same("down", x.state(Ready.WISH), want);
        }
    }

    private static void limits(Due due) {
        GridConverter x = with(0, 250);
        x.power(20000, 20000);
        int[] wishes = {100, 200, 250, 250};
        int[] reactive = {229, 150, 0, 0};
        for (int i = 0; i < wishes.length; i++) {
            x.sample(0, 0, 0);
            due.same("the wish", x.state(Ready.WISH), wishes[i]);
            due.same("reactive", x.state(Ready.REACTIVE), reactive[i]);
        }
        x.power(200, -20000);
        x.sample(0, 0, 0);
        due.same("reactive, the other way", x.state(Ready.REACTIVE), -150);
        GridConverter none = with(0, 0, 1, 2000);
        none.power(20000, -20000);
        due.same("a limit of nothing", none.sample(0, 0, 0), 0);
    }

    /** A wish outlives off(), set() and on(), so that it can be above a new limit. */
    private static void limitsOldWish(Due due) {
        GridConverter x = with(1, 2000);
        x.power(2000, 0);
        x.sample(0, 0, 0);
        x.off();
        x.set(0, 500);
        x.set(1, 100);
        Ready.wished(x);
        due.same("active", x.sample(0, 0, 0), 65536 * 500);
        due.same("the wish", x.state(Ready.WISH), 1900);
        x.off();
        x.set(9, 1);
        Ready.wished(x);
        x.power(0, 300);
        due.same("active beside reactive", x.sample(0, 0, 0), 65536 * 400 + 300);
        due.same("the wish", x.state(Ready.WISH), 1800);
    }

    private static void priorities(Due due) {
        GridConverter x = with(0, 5000, 1, 2000, 9, 1);
        x.power(20000, -3000);
        Ready.zeros(x, 3);
        due.same("active at most what is left", x.state(Ready.ACTIVE), 4000);
        due.same("reactive", x.state(Ready.REACTIVE), -3000);
        due.same("the wish", x.state(Ready.WISH), 5000);
        x.power(20000, 3001);
        x.sample(0, 0, 0);
        due.same("the root is rounded down", x.state(Ready.ACTIVE), 3999);
        x.power(1000, 20000);
        Ready.zeros(x, 3);
        due.same("nothing is left", x.state(Ready.ACTIVE), 0);
        due.same("reactive at the limit", x.state(Ready.REACTIVE), 5000);
        due.same("the wish", x.state(Ready.WISH), 1000);
        x.power(1000, -20000);
        x.sample(0, 0, 0);
        due.same("reactive at the limit", x.state(Ready.REACTIVE), -5000);
        GridConverter y = with(0, 5000, 1, 2000);
        y.power(4000, 20000);
        Ready.zeros(y, 3);
        due.same("active first", y.state(Ready.ACTIVE), 4000);
        due.same("reactive what is left", y.state(Ready.REACTIVE), 3000);
    }

    /** The frequency of nothing is 49999. */
    private static void droops(Due due) {
        int[][] rows = {
            {49999, 500, 1500}, {49900, 500, 1500}, {49899, 500, 1000}, {49800, 500, 1000}, {49799, 500, 500},
            {49699, 500, 0}, {49599, 500, 0}, {40000, 2000, 0}, {50200, 500, 1500}, {70000, 2000, 1500},
            {49899, 0, 1500}, {40000, 15, 15}};
        for (int[] row : rows) {
            GridConverter x = with(1, 2000, 7, row[0], 8, row[1]);
            x.power(1500, 0);
            x.sample(0, 0, 0);
            due.same("droop " + row[1] + " from " + row[0], x.state(Ready.ACTIVE), row[2]);
        }
        GridConverter y = with(0, 1200, 1, 2000, 7, 49899, 8, 500);
        y.power(1500, 0);
        y.sample(0, 0, 0);
        due.same("drooped before it is limited", y.state(Ready.ACTIVE), 1000);
    }

    private static void slopes(Due due) {
        GridConverter x = with(10, 3);
        x.power(0, -100);
        x.sample(0, 0, 0);
        due.same("far under", x.state(Ready.REACTIVE), 200);
        sixteen(x, 9966);
        due.same("little under", x.state(Ready.REACTIVE), -99);
        sixteen(x, 10000);
        due.same("none", x.state(Ready.REACTIVE), -100);
        sixteen(x, 10033);
        due.same("rounded towards 0", x.state(Ready.REACTIVE), -100);
        sixteen(x, 10034);
        due.same("little over", x.state(Ready.REACTIVE), -101);
        x.power(0, 20000);
        x.sample(0, 0, 0);
        due.same("limited above", x.state(Ready.REACTIVE), 10000);
        x.power(0, -20000);
        x.sample(0, 0, 0);
        due.same("limited below", x.state(Ready.REACTIVE), -10000);
    }

    private static void sixteen(GridConverter x, int voltage) {
        for (int i = 0; i < 16; i++) {
            x.sample(voltage, -voltage / 2, -voltage + voltage / 2);
        }
    }

    private static void energies(Due due) {
        GridConverter x = with();
        x.power(150, 20);
        x.sample(1600, -800, -800);
        due.same("after one step", x.energy(), 100 * 100);
        x.sample(0, 0, 0);
        due.same("after two", x.energy(), 100 * 100 + 150 * 100);
        x.off();
        due.same("after off()", x.energy(), 25000);
        x.sample(0, 0, 0);
        due.same("open", x.energy(), 25000);
        GridConverter y = with(0, 20000, 1, 2000);
        y.power(20000, 0);
        y.grid(20000, 50000, 0);
        y.run(500);
        due.same("beyond an int", y.energy() > 190000000000L, true);
    }
}

/** Promise 1, and what promises 14 to 18 answer of a new object. */
public final class NewObjectTest {
    private static final int[] FIRST = {10000, 100, 20, 9000, 11000, 49500, 50500, 50200, 0, 0, 0, 20};
    private static final int[] FIRST_SIGNALS = {0, 49999, 0, 0, 0, 0};

    public static void main(String[] args) {
        Due due = new Due("NewObjectTest");
        GridConverter x = new GridConverter();
        for (int what = 0; what < 12; what++) {
            due.same("state(" + what + ")", x.state(what), 0);
        }
        for (int what = 0; what < FIRST_SIGNALS.length; what++) {
            due.same("signal(" + what + ")", x.signal(what), FIRST_SIGNALS[what]);
        }
        for (int k = 0; k < 6; k++) {
            due.same("count(" + k + ")", x.count(k), 0);
        }
        due.same("energy()", x.energy(), 0);
        due.index("event(0, 0)", () -> x.event(0, 0));
        due.state("on()", x::on);
        due.state("run(1)", () -> x.run(1));
        due.same("off()", x.off(), false);
        due.same("reset()", x.reset(), false);
        for (int i = 0; i < FIRST.length; i++) {
            due.same("set(" + i + ", ..)", x.set(i, FIRST[i]), FIRST[i]);
        }
        due.same("check()", x.check(), GridConverter.NONE);
        due.same("state(11) of no event", x.state(11), 0);
        powersAreNothing(due);
        due.end();
    }

    private static void powersAreNothing(Due due) {
        GridConverter x = Ready.wished(Ready.lenient());
        due.same("the first closed sample", x.sample(0, 0, 0), 0);
        due.same("ordered closed", x.state(Ready.ORDERED), 1);
    }
}

/** Promise 2: set. */
public final class SettingsTest {
    private static final int[] LEAST = {0, 1, 1, 0, 0, 40000, 40000, 40000, 0, 0, 0, 1};
    private static final int[] GREATEST = {20000, 2000, 500, 20000, 20000, 70000, 70000, 70000, 2000, 1, 100, 200};

    public static void main(String[] args) {
        Due due = new Due("SettingsTest");
        for (int i = 0; i < LEAST.length; i++) {
            boundsOf(due, i);
        }
        wrongNumbers(due);
        uncheckedThen(due);
        refusedWhenWished(due);
        due.end();
    }

    private static void boundsOf(Due due, int i) {
        GridConverter x = new GridConverter();
        String name = "set " + i;
        int first = x.set(i, LEAST[i]);
        due.argument(name + " below", () -> x.set(i, LEAST[i] - 1));
        due.argument(name + " above", () -> x.set(i, GREATEST[i] + 1));
        due.argument(name + " far below", () -> x.set(i, Integer.MIN_VALUE));
        due.argument(name + " far above", () -> x.set(i, Integer.MAX_VALUE));
        due.same(name + " least kept", x.set(i, GREATEST[i]), LEAST[i]);
        due.same(name + " greatest kept", x.set(i, first), GREATEST[i]);
        due.same(name + " first again", x.set(i, first), first);
    }

    private static void wrongNumbers(Due due) {
        GridConverter x = new GridConverter();
        due.index("set(-1, 1)", () -> x.set(-1, 1));
        due.index("set(12, 1)", () -> x.set(12, 1));
        due.index("set(12, -1): the index first", () -> x.set(12, -1));
        due.index("set(least int)", () -> x.set(Integer.MIN_VALUE, 1));
        due.index("set(greatest int)", () -> x.set(Integer.MAX_VALUE, 1));
    }

    private static void uncheckedThen(Due due) {
        GridConverter x = new GridConverter();
        x.check();
        due.argument("a wrong value", () -> x.set(0, -1));
        due.index("a wrong setting", () -> x.set(-1, 0));
        due.same("still checked", x.state(Ready.CHECKED), 1);
        due.same("set to what it was", x.set(0, 10000), 10000);
        due.same("no more checked", x.state(Ready.CHECKED), 0);
        due.state("on()", x::on);
    }

    private static void refusedWhenWished(Due due) {
        GridConverter x = new GridConverter();
        x.check();
        x.on();
        due.state("set when wished", () -> x.set(0, 5));
        due.argument("the value first", () -> x.set(0, -5));
        due.index("the index first", () -> x.set(12, 5));
        due.same("still checked", x.state(Ready.CHECKED), 1);
        x.off();
        due.same("unchanged by what was refused", x.set(0, 5), 10000);
    }
}

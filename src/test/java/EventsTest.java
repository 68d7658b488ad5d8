/** Promise 18: event, and how many there were (15). */
public final class EventsTest {
    public static void main(String[] args) {
        Due due = new Due("EventsTest");
        GridConverter x = Ready.wished(Ready.lenient());
        due.index("none yet", () -> x.event(0, 0));
        for (int i = 0; i < 40; i++) {
            toggle(x);
            lookBack(due, x, i + 1);
        }
        due.end();
    }

    /** Event 1 in a step, event 2 behind it. */
    private static void toggle(GridConverter x) {
        if (x.state(Ready.ORDERED) == 0) {
            x.on();
            x.sample(0, 0, 0);
        } else {
            x.off();
        }
    }

    private static void lookBack(Due due, GridConverter x, int many) {
        due.same("how many", x.state(Ready.EVENTS), many);
        int kept = Math.min(many, 16);
        for (int i = 0; i < kept; i++) {
            int nth = many - 1 - i;
            due.same("its number", x.event(i, 0), nth % 2 == 0 ? 1 : 2);
            due.same("its steps", x.event(i, 1), (nth + 1) / 2);
        }
        due.index("behind the last", () -> x.event(kept, 0));
        due.index("behind the last", () -> x.event(kept, 1));
        due.index("number -1", () -> x.event(-1, 0));
        due.index("what -1", () -> x.event(0, -1));
        due.index("what 2", () -> x.event(0, 2));
        due.index("the least number", () -> x.event(Integer.MIN_VALUE, 0));
        due.index("the greatest number", () -> x.event(Integer.MAX_VALUE, 0));
    }
}

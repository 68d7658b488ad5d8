/** Promise 18: event, and how many there were (15). */
public final class EventsTest {
    public static void main(String[] args) {
        Due due = new Due("EventsTest");
        for (int many = 0; many <= 50; many++) {
            lookBack(due, after(many), many);
        }
        eachNumber(due);
        due.end();
    }

    /** So many events: one that closes it, one that opens it, and so on. */
    private static GridConverter after(int many) {
        GridConverter x = Ready.wished(Ready.lenient());
        for (int i = 0; i < many; i++) {
            toggle(x);
        }
        return x;
    }

    /** Event 1 in a step, event 2 behind it. */
    private static void toggle(GridConverter x) {
        if (x.state(Ready.ORDERED) == 0) {
            x.on();
            x.sample(0, 0, 0);
        } else {
            x.off();
        }
    }

    /** "Of the latest sixteen events, number i (0 the latest)": none, some, sixteen and more of them. */
    private static void lookBack(Due due, GridConverter x, int many) {
        due.same("how many", x.state(Ready.EVENTS), many);
        int kept = Math.min(many, 16);
        for (int i = 0; i < kept; i++) {
            int nth = many - 1 - i;
            due.same("its number", x.event(i, 0), nth % 2 == 0 ? 1 : 2);
            due.same("its steps", x.event(i, 1), (nth + 1) / 2);
        }
        due.index("behind the last", () -> x.event(kept, 0));
        due.index("behind the last", () -> x.event(kept, 1));
        due.index("number -1", () -> x.event(-1, 0));
        due.index("what -1", () -> x.event(0, -1));
        due.index("what 2", () -> x.event(0, 2));
        due.index("the least number", () -> x.event(Integer.MIN_VALUE, 0));
        due.index("the greatest number", () -> x.event(Integer.MAX_VALUE, 0));
    }

    /** "its number (0), the steps that there were then, without the one in which it was (1)". */
    private static void eachNumber(Due due) {
        GridConverter x = Ready.lenient();
        x.set(11, 2);
        x.curve(4, 1, 1, 1);
        Ready.wished(x);
        x.sample(1600, -800, -800);
        Ready.zeros(x, 16);
        x.sample(1600, -800, -800);
        x.off();
        x.seen(false);
        x.sample(0, 0, 0);
        x.seen(true);
        Ready.zeros(x, 2);
        x.seen(false);
        x.reset();
        int[][] want = {{4, 21}, {3, 20}, {2, 18}, {1, 17}, {14, 16}, {1, 0}};
        due.same("how many", x.state(Ready.EVENTS), want.length);
        for (int i = 0; i < want.length; i++) {
            due.same("event(" + i + ", 0)", x.event(i, 0), want[i][0]);
            due.same("event(" + i + ", 1)", x.event(i, 1), want[i][1]);
        }
    }
}

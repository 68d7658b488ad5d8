/** Promises 3 (curve), 4 (stay) and 16 (count), and point 2 of a step. */
public final class CurvesTest {
    private interface Placing {
        void place(GridConverter x, int k, int kind, int level, int time);
    }

    public static void main(String[] args) {
        Due due = new Due("CurvesTest");
        placing(due, "curve", 6, GridConverter::curve);
        placing(due, "stay", 4, GridConverter::stay);
        countsBeyondFrequency(due);
        countsBeyondVoltage(due);
        countStopsAndFallsBack(due);
        settingClearsCount(due);
        countIndexes(due);
        trips(due);
        leastOfTwoTrips(due);
        tripsOpenWithoutEvent(due);
        due.end();
    }

    private static void placing(Due due, String name, int many, Placing p) {
        GridConverter x = new GridConverter();
        for (int k = 0; k < many; k++) {
            x.check();
            p.place(x, k, k % 5, 100000, 1000);
            due.same(name + " unchecks", x.state(Ready.CHECKED), 0);
            p.place(x, k, 4, 0, 1);
            p.place(x, k, 0, 0, 1);
        }
        x.check();
        due.index(name + " -1", () -> p.place(x, -1, 1, 1, 1));
        due.index(name + " too many", () -> p.place(x, many, 1, 1, 1));
        due.index(name + " the index first", () -> p.place(x, many, 5, -1, 0));
        due.argument(name + " kind -1", () -> p.place(x, 0, -1, 1, 1));
        due.argument(name + " kind 5", () -> p.place(x, 0, 5, 1, 1));
        for (int kind = 0; kind < 5; kind++) {
            int one = kind;
            due.argument(name + " level -1", () -> p.place(x, 0, one, -1, 1));
            due.argument(name + " level 100001", () -> p.place(x, 0, one, 100001, 1));
            due.argument(name + " time 0", () -> p.place(x, 0, one, 1, 0));
            due.argument(name + " time 1001", () -> p.place(x, 0, one, 1, 1001));
        }
        due.same(name + " refused: still checked", x.state(Ready.CHECKED), 1);
        x.on();
        due.state(name + " when wished", () -> p.place(x, 0, 1, 1, 1));
        due.argument(name + " the argument first", () -> p.place(x, 0, 1, 1, 0));
        due.index(name + " the index first", () -> p.place(x, many, 1, 1, 1));
        due.same(name + " refused: still checked", x.state(Ready.CHECKED), 1);
    }

    /** Samples of nothing leave the frequency at 49999. */
    private static void countsBeyondFrequency(Due due) {
        GridConverter x = new GridConverter();
        x.curve(0, 3, 49999, 10);
        x.curve(1, 3, 50000, 10);
        x.curve(2, 4, 49999, 10);
        x.curve(3, 4, 49998, 10);
        Ready.zeros(x, 3);
        due.same("under its level", x.count(0), 0);
        due.same("under the next level", x.count(1), 3);
        due.same("over its level", x.count(2), 0);
        due.same("over the level before", x.count(3), 3);
        due.same("a curve of no kind", x.count(4), 0);
    }

    /** One sample of m = 4800 is a voltage of 100 for sixteen steps. */
    private static void countsBeyondVoltage(Due due) {
        GridConverter x = new GridConverter();
        x.curve(2, 1, 100, 20);
        x.curve(3, 1, 101, 20);
        x.curve(4, 2, 100, 20);
        x.curve(5, 2, 99, 20);
        x.sample(1600, -800, -800);
        Ready.zeros(x, 15);
        due.same("the voltage", x.signal(Ready.VOLTAGE), 100);
        due.same("under its level", x.count(2), 0);
        due.same("under the next level", x.count(3), 16);
        due.same("over its level", x.count(4), 0);
        due.same("over the level before", x.count(5), 16);
        x.sample(0, 0, 0);
        due.same("no more over", x.count(5), 0);
        due.same("under now", x.count(2), 1);
        due.same("further under", x.count(3), 17);
    }

    private static void countStopsAndFallsBack(Due due) {
        GridConverter x = new GridConverter();
        x.curve(0, 1, 1, 3);
        Ready.zeros(x, 2);
        due.same("before its time", x.count(0), 2);
        Ready.zeros(x, 1);
        due.same("at its time", x.count(0), 3);
        Ready.zeros(x, 5);
        due.same("not above its time", x.count(0), 3);
        x.sample(1600, -800, -800);
        due.same("within again", x.count(0), 0);
    }

    private static void settingClearsCount(Due due) {
        GridConverter x = new GridConverter();
        x.curve(0, 1, 1, 3);
        x.curve(1, 1, 1, 3);
        Ready.zeros(x, 3);
        x.curve(0, 1, 1, 3);
        due.same("set again", x.count(0), 0);
        due.same("the other", x.count(1), 3);
        x.stay(1, 1, 1, 3);
        due.same("a stay point clears none", x.count(1), 3);
        due.argument("a refused curve", () -> x.curve(1, 1, 1, 0));
        due.same("clears none", x.count(1), 3);
        x.curve(1, 0, 1, 3);
        due.same("none", x.count(1), 0);
        Ready.zeros(x, 3);
        due.same("none does not count", x.count(1), 0);
    }

    private static void countIndexes(Due due) {
        GridConverter x = new GridConverter();
        due.same("count(5)", x.count(5), 0);
        due.index("count(6)", () -> x.count(6));
        due.index("count(-1)", () -> x.count(-1));
        due.index("count(least)", () -> x.count(Integer.MIN_VALUE));
    }

    private static void trips(Due due) {
        GridConverter x = Ready.lenient();
        x.curve(3, 1, 1, 2);
        Ready.wished(x);
        x.sample(1600, -800, -800);
        due.same("closed", x.state(Ready.ORDERED), 1);
        Ready.zeros(x, 15);
        due.same("closed as long as there is voltage", x.state(Ready.ORDERED), 1);
        Ready.zeros(x, 1);
        due.same("closed before its time", x.state(Ready.ORDERED), 1);
        due.same("quiet before its time", x.state(Ready.QUIET), 17);
        Ready.zeros(x, 1);
        due.same("opened at its time", x.state(Ready.ORDERED), 0);
        due.same("on is still wished", x.state(Ready.WISHED), 1);
        due.same("not locked", x.state(Ready.LOCKED), 0);
        due.same("not quiet when it trips", x.state(Ready.QUIET), 0);
        due.same("its event", x.event(0, 0), 13);
        due.same("its steps", x.event(0, 1), 17);
        Ready.zeros(x, 3);
        due.same("trips on", x.state(Ready.QUIET), 0);
        due.same("one event alone", x.state(Ready.EVENTS), 2);
        x.sample(1600, -800, -800);
        due.same("closed again", x.state(Ready.ORDERED), 1);
        due.same("by quiet", x.event(0, 0), 1);
    }

    private static void leastOfTwoTrips(Due due) {
        GridConverter x = Ready.lenient();
        x.curve(5, 1, 1, 1);
        x.curve(4, 3, 50000, 17);
        x.curve(2, 1, 1, 1);
        Ready.wished(x);
        x.sample(1600, -800, -800);
        Ready.zeros(x, 16);
        due.same("the least", x.event(0, 0), 12);
        due.same("one event", x.state(Ready.EVENTS), 2);
        due.same("the others count", x.count(4), 17);
        due.same("the others count", x.count(5), 1);
    }

    private static void tripsOpenWithoutEvent(Due due) {
        GridConverter x = Ready.lenient();
        x.curve(0, 1, 1, 1);
        Ready.zeros(x, 4);
        due.same("count", x.count(0), 1);
        due.same("no event when open", x.state(Ready.EVENTS), 0);
        due.same("never quiet", x.state(Ready.QUIET), 0);
        x.check();
        x.on();
        Ready.zeros(x, 4);
        due.same("never closed", x.state(Ready.ORDERED), 0);
        due.same("no event", x.state(Ready.EVENTS), 0);
    }
}

/** Promises 3 (curve), 4 (stay) and 16 (count), and point 2 of a step. */
public final class CurvesTest {
    private interface Placing {
        void place(GridConverter x, int k, int kind, int level, int time);
    }

    public static void main(String[] args) {
        Due due = new Due("CurvesTest");
        placing(due, "curve", 6, GridConverter::curve);
        placing(due, "stay", 4, GridConverter::stay);
        countsBeyondFrequency(due);
        countsBeyondVoltage(due);
        countStopsAndFallsBack(due);
        settingClearsCount(due);
        countIndexes(due);
        trips(due);
        leastOfTwoTrips(due);
        tripsOpenWithoutEvent(due);
        levelsAtTheirEnds(due);
        timesAtTheirEnds(due);
        eachCurveTrips(due);
        noneAtFirst(due);
        leastOfEachPairTrips(due);
        tripsByEachKind(due);
        due.end();
    }

    private static void placing(Due due, String name, int many, Placing p) {
        GridConverter x = new GridConverter();
        for (int k = 0; k < many; k++) {
            x.check();
            p.place(x, k, k % 5, 100000, 1000);
            due.same(name + " unchecks", x.state(Ready.CHECKED), 0);
            p.place(x, k, 4, 0, 1);
            p.place(x, k, 0, 0, 1);
        }
        x.check();
        due.index(name + " -1", () -> p.place(x, -1, 1, 1, 1));
        due.index(name + " too many", () -> p.place(x, many, 1, 1, 1));
        due.index(name + " the index first", () -> p.place(x, many, 5, -1, 0));
        due.argument(name + " kind -1", () -> p.place(x, 0, -1, 1, 1));
        due.argument(name + " kind 5", () -> p.place(x, 0, 5, 1, 1));
        for (int kind = 0; kind < 5; kind++) {
            int one = kind;
            due.argument(name + " level -1", () -> p.place(x, 0, one, -1, 1));
            due.argument(name + " level 100001", () -> p.place(x, 0, one, 100001, 1));
            due.argument(name + " time 0", () -> p.place(x, 0, one, 1, 0));
            due.argument(name + " time 1001", () -> p.place(x, 0, one, 1, 1001));
        }
        due.same(name + " refused: still checked", x.state(Ready.CHECKED), 1);
        x.on();
        due.state(name + " when wished", () -> p.place(x, 0, 1, 1, 1));
        due.argument(name + " the argument first", () -> p.place(x, 0, 1, 1, 0));
        due.index(name + " the index first", () -> p.place(x, many, 1, 1, 1));
        due.same(name + " refused: still checked", x.state(Ready.CHECKED), 1);
    }

    /** Samples of nothing leave the frequency at 49999. */
    private static void countsBeyondFrequency(Due due) {
        GridConverter x = new GridConverter();
        x.curve(0, 3, 49999, 10);
        x.curve(1, 3, 50000, 10);
        x.curve(2, 4, 49999, 10);
        x.curve(3, 4, 49998, 10);
        Ready.zeros(x, 3);
        due.same("under its level", x.count(0), 0);
        due.same("under the next level", x.count(1), 3);
        due.same("over its level", x.count(2), 0);
        due.same("over the level before", x.count(3), 3);
        due.same("a curve of no kind", x.count(4), 0);
    }

    /** One sample of m = 4800 is a voltage of 100 for sixteen steps. */
    private static void countsBeyondVoltage(Due due) {
        GridConverter x = new GridConverter();
        x.curve(2, 1, 100, 20);
        x.curve(3, 1, 101, 20);
        x.curve(4, 2, 100, 20);
        x.curve(5, 2, 99, 20);
        x.sample(1600, -800, -800);
        Ready.zeros(x, 15);
        due.same("the voltage", x.signal(Ready.VOLTAGE), 100);
        due.same("under its level", x.count(2), 0);
        due.same("under the next level", x.count(3), 16);
        due.same("over its level", x.count(4), 0);
        due.same("over the level before", x.count(5), 16);
        x.sample(0, 0, 0);
        due.same("no more over", x.count(5), 0);
        due.same("under now", x.count(2), 1);
        due.same("further under", x.count(3), 17);
    }

    private static void countStopsAndFallsBack(Due due) {
        GridConverter x = new GridConverter();
        x.curve(0, 1, 1, 3);
        Ready.zeros(x, 2);
        due.same("before its time", x.count(0), 2);
        Ready.zeros(x, 1);
        due.same("at its time", x.count(0), 3);
        Ready.zeros(x, 5);
        due.same("not above its time", x.count(0), 3);
        x.sample(1600, -800, -800);
        due.same("within again", x.count(0), 0);
    }

    private static void settingClearsCount(Due due) {
        GridConverter x = new GridConverter();
        x.curve(0, 1, 1, 3);
        x.curve(1, 1, 1, 3);
        Ready.zeros(x, 3);
        x.curve(0, 1, 1, 3);
        due.same("set again", x.count(0), 0);
        due.same("the other", x.count(1), 3);
        x.stay(1, 1, 1, 3);
        due.same("a stay point clears none", x.count(1), 3);
        due.argument("a refused curve", () -> x.curve(1, 1, 1, 0));
        due.same("clears none", x.count(1), 3);
        x.curve(1, 0, 1, 3);
        due.same("none", x.count(1), 0);
        Ready.zeros(x, 3);
        due.same("none does not count", x.count(1), 0);
    }

    private static void countIndexes(Due due) {
        GridConverter x = new GridConverter();
        due.same("count(5)", x.count(5), 0);
        due.index("count(6)", () -> x.count(6));
        due.index("count(-1)", () -> x.count(-1));
        due.index("count(least)", () -> x.count(Integer.MIN_VALUE));
    }

    private static void trips(Due due) {
        GridConverter x = Ready.lenient();
        x.curve(3, 1, 1, 2);
        Ready.wished(x);
        x.sample(1600, -800, -800);
        due.same("closed", x.state(Ready.ORDERED), 1);
        Ready.zeros(x, 15);
        due.same("closed as long as there is voltage", x.state(Ready.ORDERED), 1);
        Ready.zeros(x, 1);
        due.same("closed before its time", x.state(Ready.ORDERED), 1);
        due.same("quiet before its time", x.state(Ready.QUIET), 17);
        Ready.zeros(x, 1);
        due.same("opened at its time", x.state(Ready.ORDERED), 0);
        due.same("on is still wished", x.state(Ready.WISHED), 1);
        due.same("not locked", x.state(Ready.LOCKED), 0);
        due.same("not quiet when it trips", x.state(Ready.QUIET), 0);
        due.same("its event", x.event(0, 0), 13);
        due.same("its steps", x.event(0, 1), 17);
        Ready.zeros(x, 3);
        due.same("trips on", x.state(Ready.QUIET), 0);
        due.same("one event alone", x.state(Ready.EVENTS), 2);
        x.sample(1600, -800, -800);
        due.same("closed again", x.state(Ready.ORDERED), 1);
        due.same("by quiet", x.event(0, 0), 1);
    }

    private static void leastOfTwoTrips(Due due) {
        GridConverter x = Ready.lenient();
        x.curve(5, 1, 1, 1);
        x.curve(4, 3, 50000, 17);
        x.curve(2, 1, 1, 1);
        Ready.wished(x);
        x.sample(1600, -800, -800);
        Ready.zeros(x, 16);
        due.same("the least", x.event(0, 0), 12);
        due.same("one event", x.state(Ready.EVENTS), 2);
        due.same("the others count", x.count(4), 17);
        due.same("the others count", x.count(5), 1);
    }

    private static void tripsOpenWithoutEvent(Due due) {
        GridConverter x = Ready.lenient();
        x.curve(0, 1, 1, 1);
        Ready.zeros(x, 4);
        due.same("count", x.count(0), 1);
        due.same("no event when open", x.state(Ready.EVENTS), 0);
        due.same("never quiet", x.state(Ready.QUIET), 0);
        x.check();
        x.on();
        Ready.zeros(x, 4);
        due.same("never closed", x.state(Ready.ORDERED), 0);
        due.same("no event", x.state(Ready.EVENTS), 0);
    }

    /** "a LEVEL (0 .. 100000)": nothing lies under 0 or over 100000, all lies under 100000 and over 0. */
    private static void levelsAtTheirEnds(Due due) {
        int[][] rows = {{1, 0, 0}, {1, 100000, 5}, {2, 0, 5}, {2, 100000, 0}, {3, 0, 0}, {3, 100000, 5}, {4, 0, 5},
            {4, 100000, 0}};
        for (int[] row : rows) {
            GridConverter x = new GridConverter();
            x.curve(0, row[0], row[1], 1000);
            x.sample(1600, -800, -800);
            Ready.zeros(x, 4);
            due.same("kind " + row[0] + ", level " + row[1], x.count(0), row[2]);
        }
        GridConverter y = new GridConverter();
        y.curve(0, 1, 0, 1000);
        y.curve(1, 2, 0, 1000);
        Ready.zeros(y, 3);
        due.same("a voltage of 0 is not under 0", y.count(0), 0);
        due.same("nor over it", y.count(1), 0);
    }

    /** "a TIME (1 .. 1000 steps)", and a count of "at most its time". */
    private static void timesAtTheirEnds(Due due) {
        int[] times = {2, 3, 999, 1000};
        for (int time : times) {
            GridConverter x = Ready.lenient();
            x.curve(5, 3, 50000, time);
            Ready.wished(x);
            x.grid(0, 50000, 0);
            due.same("closed before its time of " + time, Ready.run(x, time - 1), time - 1);
            due.same("the count before its time", x.count(5), time - 1);
            due.same("open at its time of " + time, x.run(1), 0);
            due.same("the count at its time", x.count(5), time);
            due.same("its event", x.event(0, 0), 15);
            due.same("its steps", x.event(0, 1), time - 1);
            x.run(2);
            due.same("the count behind its time", x.count(5), time);
        }
        GridConverter y = Ready.lenient();
        y.curve(5, 3, 50000, 1);
        Ready.wished(y);
        y.sample(0, 0, 0);
        due.same("a time of 1", y.count(5), 1);
        due.same("a time of 1 trips in the first step", y.state(Ready.ORDERED), 0);
    }

    /** "TRIPS: the contactor is ordered open, if it was ordered closed (an EVENT 10 + its number)". */
    private static void eachCurveTrips(Due due) {
        for (int k = 0; k < 6; k++) {
            GridConverter x = Ready.lenient();
            x.curve(k, 1, 1, 1);
            Ready.wished(x);
            x.sample(1600, -800, -800);
            Ready.zeros(x, 15);
            due.same("closed", x.state(Ready.ORDERED), 1);
            Ready.zeros(x, 1);
            due.same("opened by " + k, x.state(Ready.ORDERED), 0);
            due.same("its event", x.event(0, 0), 10 + k);
            due.same("its steps", x.event(0, 1), 16);
        }
    }

    /** "The least curve whose count is its time TRIPS". */
    private static void leastOfEachPairTrips(Due due) {
        for (int greater = 1; greater < 6; greater++) {
            for (int less = 0; less < greater; less++) {
                GridConverter x = Ready.lenient();
                x.curve(greater, 1, 1, 1);
                x.curve(less, 3, 50000, 17);
                Ready.wished(x);
                x.sample(1600, -800, -800);
                Ready.zeros(x, 16);
                due.same("the least of " + less + " and " + greater, x.event(0, 0), 10 + less);
                due.same("one event", x.state(Ready.EVENTS), 2);
            }
        }
    }

    /** A kind, the level and the next one that the third sample is not beyond, for a voltage of 100. */
    private static void tripsByEachKind(Due due) {
        int[][] rows = {{1, 101, 100}, {2, 99, 100}, {3, 50000, 49999}, {4, 49998, 49999}};
        for (int[] row : rows) {
            due.same("kind " + row[0] + " beyond its level", closedAfterThree(row[0], row[1]), 0);
            due.same("kind " + row[0] + " at its level", closedAfterThree(row[0], row[2]), 1);
        }
    }

    private static int closedAfterThree(int kind, int level) {
        GridConverter x = Ready.lenient();
        x.curve(1, kind, level, 3);
        Ready.wished(x);
        x.sample(1600, -800, -800);
        Ready.zeros(x, 2);
        return x.state(Ready.ORDERED);
    }

    /** "none at first": whatever the grid is, no curve counts. */
    private static void noneAtFirst(Due due) {
        GridConverter x = Ready.wished(Ready.lenient());
        x.sample(32767, -32768, 0);
        Ready.zeros(x, 40);
        for (int k = 0; k < 6; k++) {
            due.same("curve " + k + " of no kind", x.count(k), 0);
        }
        due.same("closed once and not opened", x.state(Ready.EVENTS), 1);
        due.same("by no curve", x.state(Ready.ORDERED), 1);
    }
}

/** Promise 5: check, and what it is to cut a stay point. */
public final class CheckTest {
    public static void main(String[] args) {
        Due due = new Due("CheckTest");
        bounds(due);
        for (int kind = 1; kind < 5; kind++) {
            cuts(due, kind);
        }
        kinds(due);
        order(due);
        everyPair(due);
        levelsAndTimesAtTheirEnds(due);
        leastOfSeveralCurves(due);
        checkChangesNoMore(due);
        due.end();
    }

    private static void bounds(Due due) {
        GridConverter x = new GridConverter();
        x.set(3, 11000);
        due.same("equal voltages", x.check(), GridConverter.NONE);
        due.same("checked", x.state(Ready.CHECKED), 1);
        x.set(3, 11001);
        due.same("voltages crossed", x.check(), 3);
        due.same("not checked", x.state(Ready.CHECKED), 0);
        due.state("on()", x::on);
        x.set(5, 50501);
        due.same("both crossed", x.check(), 3);
        x.set(3, 9000);
        due.same("frequencies crossed", x.check(), 5);
        due.same("not checked", x.state(Ready.CHECKED), 0);
        x.set(5, 50500);
        due.same("equal frequencies", x.check(), GridConverter.NONE);
        due.same("on()", x.on(), true);
        due.same("check() when on is wished", x.check(), GridConverter.NONE);
        due.same("checked", x.state(Ready.CHECKED), 1);
    }

    private static void cuts(Due due, int kind) {
        int inner = kind == 1 || kind == 3 ? 1 : -1;
        String name = "kind " + kind + ": ";
        GridConverter x = new GridConverter();
        x.stay(3, kind, 1000, 10);
        x.curve(5, kind, 1000, 10);
        due.same(name + "its level", x.check(), GridConverter.NONE);
        x.curve(5, kind, 1000 - inner, 10);
        due.same(name + "the outer side", x.check(), GridConverter.NONE);
        x.curve(5, kind, 1000 + inner, 10);
        due.same(name + "the inner side", x.check(), 105);
        due.same(name + "not checked", x.state(Ready.CHECKED), 0);
        x.curve(5, kind, 1000 + inner, 9);
        due.same(name + "a shorter time", x.check(), 105);
        x.curve(5, kind, 1000 + inner, 11);
        due.same(name + "a longer time", x.check(), GridConverter.NONE);
        due.same(name + "checked", x.state(Ready.CHECKED), 1);
        x.curve(5, kind, 1000 + inner, 10);
        x.stay(3, kind, 1000 + inner, 10);
        due.same(name + "the stay point moved", x.check(), GridConverter.NONE);
    }

    private static void kinds(Due due) {
        for (int one = 0; one < 5; one++) {
            for (int other = 0; other < 5; other++) {
                GridConverter x = new GridConverter();
                int inner = other == 1 || other == 3 ? 1 : -1;
                x.curve(0, one, 1000 + inner, 1);
                x.stay(0, other, 1000, 1);
                int want = one == other && one != 0 ? 100 : GridConverter.NONE;
                due.same("kinds " + one + " and " + other, x.check(), want);
            }
        }
    }

    private static void order(Due due) {
        GridConverter x = new GridConverter();
        x.stay(0, 1, 5000, 5);
        x.stay(1, 2, 12000, 5);
        x.stay(3, 4, 52000, 5);
        x.curve(4, 1, 5001, 5);
        x.curve(2, 4, 51999, 5);
        x.curve(3, 2, 11999, 5);
        due.same("the least curve", x.check(), 102);
        x.set(5, 60000);
        due.same("bounds first", x.check(), 5);
        x.set(5, 49500);
        x.curve(2, 0, 51999, 5);
        due.same("the next", x.check(), 103);
        x.stay(1, 0, 12000, 5);
        due.same("the last", x.check(), 104);
        x.curve(4, 1, 5000, 5);
        due.same("none", x.check(), GridConverter.NONE);
    }

    /** Each curve against each stay point, wherever they stand. */
    private static void everyPair(Due due) {
        for (int curve = 0; curve < 6; curve++) {
            for (int stay = 0; stay < 4; stay++) {
                GridConverter x = new GridConverter();
                x.stay(stay, 2, 12000, 5);
                x.curve(curve, 2, 11999, 5);
                due.same("curve " + curve + ", stay point " + stay, x.check(), 100 + curve);
                due.same("not checked", x.state(Ready.CHECKED), 0);
                x.curve(curve, 2, 12000, 5);
                due.same("curve " + curve + ", stay point " + stay + ", at its level", x.check(), GridConverter.NONE);
                due.same("checked", x.state(Ready.CHECKED), 1);
            }
        }
    }

    /** Kind, level and time of a curve, level and time of a stay point, and whether the one cuts the other. */
    private static void levelsAndTimesAtTheirEnds(Due due) {
        int[][] rows = {
            {1, 1, 1, 0, 1, 1}, {1, 0, 1, 0, 1000, 0}, {1, 100000, 1000, 99999, 1000, 1}, {1, 100000, 1000, 0, 999, 0},
            {3, 1, 1, 0, 1, 1}, {3, 0, 1, 0, 1000, 0}, {3, 100000, 1000, 99999, 1000, 1}, {3, 100000, 1000, 0, 999, 0},
            {2, 0, 1, 1, 1, 1}, {2, 100000, 1, 100000, 1000, 0}, {2, 99999, 1000, 100000, 1000, 1},
            {2, 0, 1000, 100000, 999, 0}, {4, 0, 1, 1, 1, 1}, {4, 100000, 1, 100000, 1000, 0},
            {4, 99999, 1000, 100000, 1000, 1}, {4, 0, 1000, 100000, 999, 0}};
        for (int[] row : rows) {
            GridConverter x = new GridConverter();
            x.curve(1, row[0], row[1], row[2]);
            x.stay(2, row[0], row[3], row[4]);
            int want = row[5] == 1 ? 101 : GridConverter.NONE;
            due.same("kind " + row[0] + ", level " + row[1] + ", time " + row[2], x.check(), want);
        }
    }

    /** "100 and the least curve that cuts a stay point": also when a greater one cuts one that stands first. */
    private static void leastOfSeveralCurves(Due due) {
        for (int greater = 1; greater < 6; greater++) {
            for (int less = 0; less < greater; less++) {
                GridConverter x = new GridConverter();
                x.stay(0, 1, 5000, 5);
                x.stay(3, 4, 52000, 5);
                x.curve(greater, 1, 5001, 5);
                x.curve(less, 4, 51999, 5);
                due.same("the least of " + less + " and " + greater, x.check(), 100 + less);
                x.set(3, 11001);
                due.same("3 goes first", x.check(), 3);
            }
        }
    }

    /** A check that finds a fault takes back what an earlier one said, and nothing else. */
    private static void checkChangesNoMore(Due due) {
        GridConverter x = SetUp.unchecked();
        GridConverter y = SetUp.unchecked();
        x.check();
        long[] want = Picture.of(y);
        want[Ready.CHECKED] = 1;
        due.same("only checked now", Picture.of(x), want);
        x.curve(0, 1, 701, 5);
        y.curve(0, 1, 701, 5);
        due.same("check()", x.check(), 100);
        due.same("nothing else", Picture.of(x), Picture.of(y));
    }
}

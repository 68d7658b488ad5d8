/** Promises 6 (on), 7 (off), 8 (seen), 9 (reset), and points 3 and 4 of a step. */
public final class ContactorTest {
    public static void main(String[] args) {
        Due due = new Due("ContactorTest");
        onAndOff(due);
        offLeavesTheRest(due);
        closesWhenNeeded(due);
        quietBounds(due);
        quietEnds(due);
        missed(due);
        locksAgain(due);
        resets(due);
        quietAtMostAThousand(due);
        quietAtLeastNeeded(due);
        voltageBoundsAtTheirEnds(due);
        patienceAtItsEnds(due);
        patienceOrMore(due);
        closesAndLocksInOneStep(due);
        seenAgainstOrderedNow(due);
        offTellsWhatWasOrdered(due);
        due.end();
    }

    private static void onAndOff(Due due) {
        GridConverter x = new GridConverter();
        due.state("on() before check()", x::on);
        x.check();
        due.same("on()", x.on(), true);
        due.same("on() again", x.on(), false);
        due.same("wished", x.state(Ready.WISHED), 1);
        due.same("off()", x.off(), true);
        due.same("not wished", x.state(Ready.WISHED), 0);
        due.same("off() again", x.off(), false);
        due.same("no event, for it was open", x.state(Ready.EVENTS), 0);
        due.same("still checked", x.state(Ready.CHECKED), 1);
        due.same("on() after off()", x.on(), true);
    }

    private static void offLeavesTheRest(Due due) {
        GridConverter x = Ready.wished(Ready.lenient());
        x.power(150, 70);
        Ready.zeros(x, 2);
        due.same("off()", x.off(), true);
        due.same("ordered open", x.state(Ready.ORDERED), 0);
        due.same("event 2", x.event(0, 0), 2);
        due.same("steps then", x.event(0, 1), 2);
        due.same("seen as it was", x.state(Ready.SEEN), 1);
        due.same("the wish until the next step", x.state(Ready.WISH), 150);
        due.same("active until the next step", x.state(Ready.ACTIVE), 150);
        due.same("reactive until the next step", x.state(Ready.REACTIVE), 70);
        due.same("quiet", x.state(Ready.QUIET), 2);
        due.same("missed until the next step", x.state(Ready.MISSED), 0);
        due.same("off() again", x.off(), false);
        due.same("no further event", x.state(Ready.EVENTS), 2);
        due.same("the next sample", x.sample(0, 0, 0), 0);
        due.same("the wish", x.state(Ready.WISH), 0);
        due.same("active", x.state(Ready.ACTIVE), 0);
        due.same("reactive", x.state(Ready.REACTIVE), 0);
        due.same("missed", x.state(Ready.MISSED), 1);
        due.same("open as on is not wished", x.state(Ready.ORDERED), 0);
    }

    private static void closesWhenNeeded(Due due) {
        GridConverter x = Ready.lenient();
        x.set(2, 5);
        Ready.wished(x);
        x.seen(false);
        Ready.zeros(x, 4);
        due.same("quiet", x.state(Ready.QUIET), 4);
        due.same("open", x.state(Ready.ORDERED), 0);
        Ready.zeros(x, 1);
        due.same("closed", x.state(Ready.ORDERED), 1);
        due.same("event 1", x.event(0, 0), 1);
        due.same("steps then", x.event(0, 1), 4);
        due.same("not seen so: missed at once", x.state(Ready.MISSED), 1);
        x.off();
        x.on();
        Ready.zeros(x, 1);
        due.same("quiet goes on, closed at once", x.state(Ready.ORDERED), 1);
        GridConverter y = Ready.lenient();
        y.set(2, 500);
        y.check();
        y.on();
        y.grid(0, 50000, 0);
        due.same("499 quiet steps", y.run(499), 0);
        due.same("the 500th", y.run(1), 1);
        y.off();
        y.run(500);
        due.same("quiet has an end", y.run(20), 0);
        due.same("of 1000", y.state(Ready.QUIET), 1000);
    }

    /** After one sample the voltage is 100 and the frequency 49999 for sixteen steps. */
    private static void quietBounds(Due due) {
        int[][] bounds = {
            {100, 100, 49999, 49999, 3}, {101, 20000, 40000, 70000, 0}, {0, 99, 40000, 70000, 0},
            {0, 20000, 50000, 70000, 0}, {0, 20000, 40000, 49998, 0}, {0, 100, 40000, 49999, 3},
            {100, 20000, 49999, 70000, 3}};
        for (int[] row : bounds) {
            GridConverter x = new GridConverter();
            for (int i = 0; i < 4; i++) {
                x.set(3 + i, row[i]);
            }
            x.sample(1600, -800, -800);
            Ready.zeros(x, 2);
            due.same("quiet " + row[0] + " " + row[1] + " " + row[2] + " " + row[3], x.state(Ready.QUIET), row[4]);
        }
    }

    private static void quietEnds(Due due) {
        GridConverter x = Ready.lenient();
        x.set(3, 1);
        Ready.wished(x);
        x.sample(1600, -800, -800);
        Ready.zeros(x, 15);
        due.same("quiet", x.state(Ready.QUIET), 16);
        Ready.zeros(x, 1);
        due.same("no more", x.state(Ready.QUIET), 0);
        due.same("closed all the same", x.state(Ready.ORDERED), 1);
    }

    private static void missed(Due due) {
        GridConverter x = Ready.lenient();
        x.set(11, 3);
        Ready.wished(x);
        x.power(100, 100);
        x.seen(false);
        Ready.zeros(x, 2);
        due.same("missed", x.state(Ready.MISSED), 2);
        x.seen(true);
        due.same("seen", x.state(Ready.SEEN), 1);
        due.same("missed until the next step", x.state(Ready.MISSED), 2);
        Ready.zeros(x, 1);
        due.same("missed no more", x.state(Ready.MISSED), 0);
        x.seen(false);
        due.same("seen", x.state(Ready.SEEN), 0);
        Ready.zeros(x, 2);
        due.same("not locked", x.state(Ready.LOCKED), 0);
        due.same("closed", x.state(Ready.ORDERED), 1);
        due.same("the sample that locks", x.sample(0, 0, 0), 0);
        due.same("locked", x.state(Ready.LOCKED), 1);
        due.same("not wished", x.state(Ready.WISHED), 0);
        due.same("open", x.state(Ready.ORDERED), 0);
        due.same("missed anew", x.state(Ready.MISSED), 0);
        due.same("event 3", x.event(0, 0), 3);
        due.same("steps then", x.event(0, 1), 5);
        due.same("events", x.state(Ready.EVENTS), 2);
        due.state("on() when locked", x::on);
        due.same("still checked", x.state(Ready.CHECKED), 1);
        due.same("off()", x.off(), false);
        due.same("locked yet", x.state(Ready.LOCKED), 1);
        due.same("set when locked", x.set(11, 1), 3);
    }

    private static void locksAgain(Due due) {
        GridConverter x = new GridConverter();
        x.set(11, 2);
        x.seen(true);
        Ready.zeros(x, 1);
        due.same("not locked before patience ends", x.state(Ready.LOCKED), 0);
        Ready.zeros(x, 1);
        due.same("locked though never closed", x.state(Ready.LOCKED), 1);
        Ready.zeros(x, 4);
        due.same("each time that patience ends", x.state(Ready.EVENTS), 3);
        due.same("event 3", x.event(0, 0), 3);
        due.same("steps then", x.event(0, 1), 5);
        GridConverter y = new GridConverter();
        y.seen(true);
        Ready.zeros(y, 5);
        y.set(11, 3);
        due.same("missed more than the new patience", y.state(Ready.MISSED), 5);
        Ready.zeros(y, 1);
        due.same("locked in the next step", y.state(Ready.LOCKED), 1);
        due.same("missed anew", y.state(Ready.MISSED), 0);
    }

    private static void resets(Due due) {
        GridConverter x = Ready.lenient();
        due.same("reset() when not locked", x.reset(), false);
        x.set(11, 2);
        x.check();
        x.seen(true);
        Ready.zeros(x, 3);
        due.same("locked", x.state(Ready.LOCKED), 1);
        due.same("reset() when seen closed", x.reset(), false);
        due.same("locked yet", x.state(Ready.LOCKED), 1);
        due.same("one event", x.state(Ready.EVENTS), 1);
        x.seen(false);
        due.same("reset()", x.reset(), true);
        due.same("not locked", x.state(Ready.LOCKED), 0);
        due.same("event 4", x.event(0, 0), 4);
        due.same("steps then", x.event(0, 1), 3);
        due.same("missed until the next step", x.state(Ready.MISSED), 1);
        due.same("reset() again", x.reset(), false);
        due.same("two events", x.state(Ready.EVENTS), 2);
        due.same("on()", x.on(), true);
        x.seen(true);
        Ready.zeros(x, 1);
        due.same("closed", x.state(Ready.ORDERED), 1);
    }

    /** "QUIET is 1 more (at most 1000) .. else 0". */
    private static void quietAtMostAThousand(Due due) {
        GridConverter x = Ready.lenient();
        x.grid(0, 50000, 0);
        int[][] rows = {{1, 1}, {498, 499}, {500, 999}, {1, 1000}, {1, 1000}, {500, 1000}};
        for (int[] row : rows) {
            x.run(row[0]);
            due.same("quiet after " + x.state(Ready.STEPS), x.state(Ready.QUIET), row[1]);
        }
        x.set(3, 1);
        due.same("quiet until the next step", x.state(Ready.QUIET), 1000);
        x.run(1);
        due.same("else 0", x.state(Ready.QUIET), 0);
    }

    /** "quiet is at least NEEDED": one less, as many, and more; at the ends of NEEDED, too. */
    private static void quietAtLeastNeeded(Due due) {
        int[] needs = {1, 2, 20, 499, 500};
        for (int needed : needs) {
            GridConverter x = Ready.lenient();
            x.set(2, needed);
            x.check();
            x.on();
            x.grid(0, 50000, 0);
            due.same("open before " + needed, Ready.run(x, needed - 1), 0);
            due.same("closed at " + needed, x.run(1), 1);
            due.same("quiet then", x.state(Ready.QUIET), needed);
            due.same("steps of its event", x.event(0, 1), needed - 1);
        }
        GridConverter y = Ready.lenient();
        y.set(2, 20);
        y.check();
        y.grid(0, 50000, 0);
        due.same("open as on is not wished", y.run(30), 0);
        y.on();
        due.same("closed by more than is needed", y.run(1), 1);
    }

    /** The bounds at 0 and at 20000: the least, the greatest quiet voltage, the voltage, and whether it is quiet. */
    private static void voltageBoundsAtTheirEnds(Due due) {
        int[][] rows = {{0, 0, 0, 1}, {0, 0, 1, 0}, {1, 20000, 0, 0}, {1, 20000, 1, 1}, {20000, 20000, 19999, 0},
            {20000, 20000, 20000, 1}, {20000, 20000, 20001, 0}, {0, 20000, 20000, 1}, {0, 20000, 20001, 0},
            {0, 19999, 20000, 0}};
        for (int[] row : rows) {
            GridConverter x = Ready.lenient();
            x.set(3, row[0]);
            x.set(4, row[1]);
            Ready.sixteen(x, row[2]);
            due.same("the voltage", x.signal(Ready.VOLTAGE), row[2]);
            int quiet = Math.min(x.state(Ready.QUIET), 1);
            due.same("quiet at " + row[2] + " in " + row[0] + " .. " + row[1], quiet, row[3]);
        }
    }

    /** "when it is PATIENCE or more": one step less, and as many, at the ends of PATIENCE, too. */
    private static void patienceAtItsEnds(Due due) {
        int[] patiences = {1, 2, 20, 199, 200};
        for (int patience : patiences) {
            GridConverter x = new GridConverter();
            x.set(11, patience);
            x.seen(true);
            x.grid(0, 50000, 0);
            Ready.run(x, patience - 1);
            due.same("missed before " + patience, x.state(Ready.MISSED), patience - 1);
            due.same("not locked", x.state(Ready.LOCKED), 0);
            due.same("no event", x.state(Ready.EVENTS), 0);
            x.run(1);
            due.same("locked at " + patience, x.state(Ready.LOCKED), 1);
            due.same("missed is 0", x.state(Ready.MISSED), 0);
            due.same("event 3", x.event(0, 0), 3);
            due.same("its steps", x.event(0, 1), patience - 1);
        }
    }

    /** Missed for five steps, then PATIENCE is set: whether the next step locks. */
    private static void patienceOrMore(Due due) {
        int[][] rows = {{1, 1}, {5, 1}, {6, 1}, {7, 0}};
        for (int[] row : rows) {
            GridConverter x = new GridConverter();
            x.seen(true);
            Ready.zeros(x, 5);
            x.set(11, row[0]);
            due.same("not locked yet", x.state(Ready.LOCKED), 0);
            Ready.zeros(x, 1);
            due.same("missed 6 of " + row[0], x.state(Ready.LOCKED), row[1]);
            due.same("missed then", x.state(Ready.MISSED), row[1] == 1 ? 0 : 6);
        }
    }

    private static void closesAndLocksInOneStep(Due due) {
        GridConverter x = Ready.lenient();
        x.set(11, 1);
        x.check();
        x.on();
        x.power(100, 100);
        due.same("the sample", x.sample(0, 0, 0), 0);
        due.same("both events", x.state(Ready.EVENTS), 2);
        due.same("closed first", x.event(1, 0), 1);
        due.same("then locked", x.event(0, 0), 3);
        due.same("in the same step", x.event(1, 1), 0);
        due.same("in the same step", x.event(0, 1), 0);
        due.same("ordered open", x.state(Ready.ORDERED), 0);
        due.same("not wished", x.state(Ready.WISHED), 0);
        due.same("the wish", x.state(Ready.WISH), 0);
    }

    /** "SEEN otherwise than it is ordered now": behind what points 2 and 3 of the same step order. */
    private static void seenAgainstOrderedNow(Due due) {
        GridConverter x = Ready.lenient();
        x.curve(0, 1, 1, 1);
        Ready.wished(x);
        x.sample(1600, -800, -800);
        due.same("closed now, seen closed", x.state(Ready.MISSED), 0);
        Ready.zeros(x, 15);
        due.same("still so", x.state(Ready.MISSED), 0);
        Ready.zeros(x, 1);
        due.same("opened now, seen closed", x.state(Ready.MISSED), 1);
        x.sample(1600, -800, -800);
        due.same("closed again", x.state(Ready.MISSED), 0);
        x.seen(false);
        x.sample(1600, -800, -800);
        due.same("seen open", x.state(Ready.MISSED), 1);
    }

    /** "event 2, if it was closed": as it was ordered, however it was seen. */
    private static void offTellsWhatWasOrdered(Due due) {
        GridConverter x = Ready.wished(Ready.lenient());
        x.sample(0, 0, 0);
        x.seen(false);
        due.same("off()", x.off(), true);
        due.same("ordered closed, seen open", x.event(0, 0), 2);
        x.seen(true);
        due.same("off() again", x.off(), false);
        due.same("ordered open, seen closed", x.state(Ready.EVENTS), 2);
        GridConverter y = Ready.wished(new GridConverter());
        due.same("off() before it has closed", y.off(), true);
        due.same("no event", y.state(Ready.EVENTS), 0);
    }
}

/** Promises 6 (on), 7 (off), 8 (seen), 9 (reset), and points 3 and 4 of a step. */
public final class ContactorTest {
    public static void main(String[] args) {
        Due due = new Due("ContactorTest");
        onAndOff(due);
        offLeavesTheRest(due);
        closesWhenNeeded(due);
        quietBounds(due);
        quietEnds(due);
        missed(due);
        locksAgain(due);
        resets(due);
        due.end();
    }

    private static void onAndOff(Due due) {
        GridConverter x = new GridConverter();
        due.state("on() before check()", x::on);
        x.check();
        due.same("on()", x.on(), true);
        due.same("on() again", x.on(), false);
        due.same("wished", x.state(Ready.WISHED), 1);
        due.same("off()", x.off(), true);
        due.same("not wished", x.state(Ready.WISHED), 0);
        due.same("off() again", x.off(), false);
        due.same("no event, for it was open", x.state(Ready.EVENTS), 0);
        due.same("still checked", x.state(Ready.CHECKED), 1);
        due.same("on() after off()", x.on(), true);
    }

    private static void offLeavesTheRest(Due due) {
        GridConverter x = Ready.wished(Ready.lenient());
        x.power(150, 70);
        Ready.zeros(x, 2);
        due.same("off()", x.off(), true);
        due.same("ordered open", x.state(Ready.ORDERED), 0);
        due.same("event 2", x.event(0, 0), 2);
        due.same("steps then", x.event(0, 1), 2);
        due.same("seen as it was", x.state(Ready.SEEN), 1);
        due.same("the wish until the next step", x.state(Ready.WISH), 150);
        due.same("active until the next step", x.state(Ready.ACTIVE), 150);
        due.same("reactive until the next step", x.state(Ready.REACTIVE), 70);
        due.same("quiet", x.state(Ready.QUIET), 2);
        due.same("missed until the next step", x.state(Ready.MISSED), 0);
        due.same("off() again", x.off(), false);
        due.same("no further event", x.state(Ready.EVENTS), 2);
        due.same("the next sample", x.sample(0, 0, 0), 0);
        due.same("the wish", x.state(Ready.WISH), 0);
        due.same("active", x.state(Ready.ACTIVE), 0);
        due.same("reactive", x.state(Ready.REACTIVE), 0);
        due.same("missed", x.state(Ready.MISSED), 1);
        due.same("open as on is not wished", x.state(Ready.ORDERED), 0);
    }

    private static void closesWhenNeeded(Due due) {
        GridConverter x = Ready.lenient();
        x.set(2, 5);
        Ready.wished(x);
        x.seen(false);
        Ready.zeros(x, 4);
        due.same("quiet", x.state(Ready.QUIET), 4);
        due.same("open", x.state(Ready.ORDERED), 0);
        Ready.zeros(x, 1);
        due.same("closed", x.state(Ready.ORDERED), 1);
        due.same("event 1", x.event(0, 0), 1);
        due.same("steps then", x.event(0, 1), 4);
        due.same("not seen so: missed at once", x.state(Ready.MISSED), 1);
        x.off();
        x.on();
        Ready.zeros(x, 1);
        due.same("quiet goes on, closed at once", x.state(Ready.ORDERED), 1);
        GridConverter y = Ready.lenient();
        y.set(2, 500);
        y.check();
        y.on();
        y.grid(0, 50000, 0);
        due.same("499 quiet steps", y.run(499), 0);
        due.same("the 500th", y.run(1), 1);
        y.off();
        y.run(500);
        due.same("quiet has an end", y.run(20), 0);
        due.same("of 1000", y.state(Ready.QUIET), 1000);
    }

    /** After one sample the voltage is 100 and the frequency 49999 for sixteen steps. */
    private static void quietBounds(Due due) {
        int[][] bounds = {
            {100, 100, 49999, 49999, 3}, {101, 20000, 40000, 70000, 0}, {0, 99, 40000, 70000, 0},
            {0, 20000, 50000, 70000, 0}, {0, 20000, 40000, 49998, 0}, {0, 100, 40000, 49999, 3},
            {100, 20000, 49999, 70000, 3}};
        for (int[] row : bounds) {
            GridConverter x = new GridConverter();
            for (int i = 0; i < 4; i++) {
                x.set(3 + i, row[i]);
            }
            x.sample(1600, -800, -800);
            Ready.zeros(x, 2);
            due.same("quiet " + row[0] + " " + row[1] + " " + row[2] + " " + row[3], x.state(Ready.QUIET), row[4]);
        }
    }

    private static void quietEnds(Due due) {
        GridConverter x = Ready.lenient();
        x.set(3, 1);
        Ready.wished(x);
        x.sample(1600, -800, -800);
        Ready.zeros(x, 15);
        due.same("quiet", x.state(Ready.QUIET), 16);
        Ready.zeros(x, 1);
        due.same("no more", x.state(Ready.QUIET), 0);
        due.same("closed all the same", x.state(Ready.ORDERED), 1);
    }

    private static void missed(Due due) {
        GridConverter x = Ready.lenient();
        x.set(11, 3);
        Ready.wished(x);
        x.power(100, 100);
        x.seen(false);
        Ready.zeros(x, 2);
        due.same("missed", x.state(Ready.MISSED), 2);
        x.seen(true);
        due.same("seen", x.state(Ready.SEEN), 1);
        due.same("missed until the next step", x.state(Ready.MISSED), 2);
        Ready.zeros(x, 1);
        due.same("missed no more", x.state(Ready.MISSED), 0);
        x.seen(false);
        due.same("seen", x.state(Ready.SEEN), 0);
        Ready.zeros(x, 2);
        due.same("not locked", x.state(Ready.LOCKED), 0);
        due.same("closed", x.state(Ready.ORDERED), 1);
        due.same("the sample that locks", x.sample(0, 0, 0), 0);
        due.same("locked", x.state(Ready.LOCKED), 1);
        due.same("not wished", x.state(Ready.WISHED), 0);
        due.same("open", x.state(Ready.ORDERED), 0);
        due.same("missed anew", x.state(Ready.MISSED), 0);
        due.same("event 3", x.event(0, 0), 3);
        due.same("steps then", x.event(0, 1), 5);
        due.same("events", x.state(Ready.EVENTS), 2);
        due.state("on() when locked", x::on);
        due.same("still checked", x.state(Ready.CHECKED), 1);
        due.same("off()", x.off(), false);
        due.same("locked yet", x.state(Ready.LOCKED), 1);
        due.same("set when locked", x.set(11, 1), 3);
    }

    private static void locksAgain(Due due) {
        GridConverter x = new GridConverter();
        x.set(11, 2);
        x.seen(true);
        Ready.zeros(x, 1);
        due.same("not locked before patience ends", x.state(Ready.LOCKED), 0);
        Ready.zeros(x, 1);
        due.same("locked though never closed", x.state(Ready.LOCKED), 1);
        Ready.zeros(x, 4);
        due.same("each time that patience ends", x.state(Ready.EVENTS), 3);
        due.same("event 3", x.event(0, 0), 3);
        due.same("steps then", x.event(0, 1), 5);
        GridConverter y = new GridConverter();
        y.seen(true);
        Ready.zeros(y, 5);
        y.set(11, 3);
        due.same("missed more than the new patience", y.state(Ready.MISSED), 5);
        Ready.zeros(y, 1);
        due.same("locked in the next step", y.state(Ready.LOCKED), 1);
        due.same("missed anew", y.state(Ready.MISSED), 0);
    }

    private static void resets(Due due) {
        GridConverter x = Ready.lenient();
        due.same("reset() when not locked", x.reset(), false);
        x.set(11, 2);
        x.check();
        x.seen(true);
        Ready.zeros(x, 3);
        due.same("locked", x.state(Ready.LOCKED), 1);
        due.same("reset() when seen closed", x.reset(), false);
        due.same("locked yet", x.state(Ready.LOCKED), 1);
        due.same("one event", x.state(Ready.EVENTS), 1);
        x.seen(false);
        due.same("reset()", x.reset(), true);
        due.same("not locked", x.state(Ready.LOCKED), 0);
        due.same("event 4", x.event(0, 0), 4);
        due.same("steps then", x.event(0, 1), 3);
        due.same("missed until the next step", x.state(Ready.MISSED), 1);
        due.same("reset() again", x.reset(), false);
        due.same("two events", x.state(Ready.EVENTS), 2);
        due.same("on()", x.on(), true);
        x.seen(true);
        Ready.zeros(x, 1);
        due.same("closed", x.state(Ready.ORDERED), 1);
    }
}

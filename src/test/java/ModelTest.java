import java.util.Random;

/** Runs of calls of all kinds, the same for the class and for the model; now and then all that shows is looked at. */
public final class ModelTest {
    private static final int RUNS = 4000;
    /** The document says nothing of later ones; a look at all takes up to 58 of them. */
    private static final int MOST_CALLS = 512;
    private static final int LOOK = 58;
    private static final int[][] BOUNDS = {
        {0, 20000}, {1, 2000}, {1, 500}, {0, 20000}, {0, 20000}, {40000, 70000}, {40000, 70000}, {40000, 70000},
        {0, 2000}, {0, 1}, {0, 100}, {1, 200}};

    private interface Answer {
        long of();
    }

    private final Due due;
    private final Random random;
    private final GridConverter x = new GridConverter();
    private final Model model = new Model();
    private int calls;

    private ModelTest(Due due, long seed) {
        this.due = due;
        this.random = new Random(seed);
    }

    public static void main(String[] args) {
        Due due = new Due("ModelTest");
        for (int seed = 0; seed < RUNS; seed++) {
            ModelTest one = new ModelTest(due, seed);
            if (seed % 4 != 0) {
                one.begin();
            }
            int most = seed % 8 == 0 ? MOST_CALLS - 2 * LOOK : one.between(1, 150);
            while (one.calls < most) {
                one.call("run " + seed + ", call " + one.calls + ": ");
            }
            one.look("run " + seed + " at its end");
        }
        due.end();
    }

    /** Most runs begin with a grid that is near to what is quiet, so that the contactor does close. */
    private void begin() {
        change("set", () -> x.set(2, 3), () -> model.set(2, 3));
        int amplitude = between(8500, 11000);
        int frequency = between(49500, 50700);
        change("grid", () -> nothing(() -> x.grid(amplitude, frequency, 0)),
            () -> nothing(() -> model.grid(amplitude, frequency, 0)));
        change("run", () -> x.run(200), () -> model.run(200));
        change("check", x::check, model::check);
        change("on", () -> x.on() ? 1 : 0, model::on);
        change("seen", () -> nothing(() -> x.seen(true)), () -> nothing(() -> model.seen(true)));
    }

    private void call(String where) {
        switch (random.nextInt(20)) {
            case 0: case 1: callSet(where); break;
            case 2: callPoint(where, true); break;
            case 3: callPoint(where, false); break;
            case 4: case 5: change(where + "check", x::check, model::check); break;
            case 6: case 7: change(where + "on", () -> x.on() ? 1 : 0, model::on); break;
            case 8: callOff(where); break;
            case 9: callSeen(where, random.nextBoolean()); break;
            case 10: callSeen(where, model.state(Ready.ORDERED) == 1); break;
            case 11: change(where + "reset", () -> x.reset() ? 1 : 0, model::reset); break;
            case 12: callPower(where); break;
            case 13: callSample(where); break;
            case 14: callGrid(where); break;
            case 15: callLook(where); break;
            default: callRun(where);
        }
    }

    private void callOff(String where) {
        if (random.nextInt(3) == 0) {
            change(where + "off", () -> x.off() ? 1 : 0, model::off);
        }
    }

    private void callSet(String where) {
        int i = between(-1, 12);
        int[] bounds = BOUNDS[Math.max(0, Math.min(11, i))];
        boolean near = random.nextInt(3) == 0;
        int value = near ? bounds[random.nextInt(2)] + between(-1, 1) : between(bounds[0], bounds[1]);
        if (i >= 3 && i <= 6 && random.nextInt(4) != 0) {
            int[] wide = {between(0, 9000), between(10500, 20000), between(40000, 49900), between(50100, 70000)};
            value = wide[i - 3];
        }
        if (i == 2 && random.nextInt(3) != 0) {
            value = between(1, 10);
        }
        int v = value;
        change(where + "set(" + i + ", " + v + ")", () -> x.set(i, v), () -> model.set(i, v));
    }

    private void callPoint(String where, boolean isCurve) {
        int k = between(-1, isCurve ? 6 : 4);
        int kind = random.nextInt(12) == 0 ? between(-1, 5) : between(0, 4);
        int[] levels = {between(0, 12000), between(7000, 10000), between(9500, 13000), between(48000, 50200),
            between(49800, 52000)};
        int level = random.nextInt(12) == 0 ? between(-1, 100001) : levels[Math.max(0, Math.min(4, kind))];
        int time = random.nextInt(12) == 0 ? between(-1, 1001) : between(1, 60);
        change(where + "point(" + isCurve + ", " + k + ", " + kind + ", " + level + ", " + time + ")",
            () -> nothing(() -> {
                if (isCurve) {
                    x.curve(k, kind, level, time);
                } else {
                    x.stay(k, kind, level, time);
                }
            }), () -> nothing(() -> model.point(isCurve, k, kind, level, time)));
    }

    private void callSeen(String where, boolean closed) {
        change(where + "seen(" + closed + ")", () -> nothing(() -> x.seen(closed)),
            () -> nothing(() -> model.seen(closed)));
    }

    private void callPower(String where) {
        int a = between(-500, 20500);
        int r = between(-20500, 20500);
        change(where + "power(" + a + ", " + r + ")", () -> nothing(() -> x.power(a, r)),
            () -> nothing(() -> model.power(a, r)));
    }

    private void callSample(String where) {
        int a = between(-32800, 32800);
        int b = between(-32800, 32800);
        int c = between(-32800, 32800);
        change(where + "sample(" + a + ", " + b + ", " + c + ")", () -> x.sample(a, b, c), () -> model.sample(a, b, c));
    }

    private void callGrid(String where) {
        int a = random.nextInt(3) == 0 ? between(-500, 20500) : between(7000, 12000);
        int f = random.nextInt(3) == 0 ? between(39000, 71000) : between(49000, 51000);
        int jump = random.nextInt(3) == 0 ? random.nextInt() : between(-9000000, 9000000);
        change(where + "grid(" + a + ", " + f + ", " + jump + ")", () -> nothing(() -> x.grid(a, f, jump)),
            () -> nothing(() -> model.grid(a, f, jump)));
    }

    private void callRun(String where) {
        int n = random.nextInt(10) == 0 ? between(-1, 501) : between(1, 60);
        change(where + "run(" + n + ")", () -> x.run(n), () -> model.run(n));
    }

    private void callLook(String where) {
        int i = between(-2, 18);
        int what = between(-1, 2);
        same(where + "event(" + i + ", " + what + ")", () -> x.event(i, what), () -> model.event(i, what));
        same(where + "signal(" + i + ")", () -> x.signal(i), () -> model.signal(i));
        same(where + "state(" + i + ")", () -> x.state(i), () -> model.state(i));
        same(where + "count(" + i + ")", () -> x.count(i), () -> model.count(i));
    }

    private void change(String call, Answer got, Answer want) {
        same(call, got, want);
        if (random.nextInt(30) == 0) {
            look(call);
        }
    }

    private void look(String call) {
        calls += LOOK;
        for (int what = 0; what < 12; what++) {
            due.same(call + ", then state(" + what + ")", x.state(what), model.state(what));
        }
        for (int what = 0; what < 6; what++) {
            due.same(call + ", then signal(" + what + ")", x.signal(what), model.signal(what));
            due.same(call + ", then count(" + what + ")", x.count(what), model.count(what));
        }
        due.same(call + ", then energy()", x.energy(), model.energy());
        for (int i = 0; i < Math.min(16, model.state(Ready.EVENTS)); i++) {
            due.same(call + ", then event(" + i + ", 0)", x.event(i, 0), model.event(i, 0));
            due.same(call + ", then event(" + i + ", 1)", x.event(i, 1), model.event(i, 1));
        }
    }

    private void same(String call, Answer got, Answer want) {
        calls++;
        due.same(call, answered(got), answered(want));
    }

    /** An exception becomes a number that no call answers. */
    private static long answered(Answer answer) {
        try {
            return answer.of();
        } catch (IndexOutOfBoundsException e) {
            return Long.MIN_VALUE;
        } catch (IllegalArgumentException e) {
            return Long.MIN_VALUE + 1;
        } catch (IllegalStateException e) {
            return Long.MIN_VALUE + 2;
        }
    }

    private static long nothing(Due.Call call) {
        call.make();
        return 0;
    }

    private int between(int least, int greatest) {
        return least + random.nextInt(greatest - least + 1);
    }
}

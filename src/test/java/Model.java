import java.math.BigInteger;
import java.util.ArrayList;
import java.util.List;

/** The document's words once more, in another form (whole histories, great numbers), to hold the class against. */
final class Model {
    private static final long TURN = 1L << 32;

    final long[] set = {10000, 100, 20, 9000, 11000, 49500, 50500, 50200, 0, 0, 0, 20};
    private final long[][] bounds = {
        {0, 20000}, {1, 2000}, {1, 500}, {0, 20000}, {0, 20000}, {40000, 70000}, {40000, 70000}, {40000, 70000},
        {0, 2000}, {0, 1}, {0, 100}, {1, 200}};
    private final long[][] curves = new long[6][4];
    private final long[][] stays = new long[4][4];
    private final List<Long> magnitudes = new ArrayList<>();
    private final List<Long> paces = new ArrayList<>();
    private final List<long[]> events = new ArrayList<>();
    private boolean checked;
    private boolean wished;
    private boolean ordered;
    private boolean seen;
    private boolean locked;
    private long missed;
    private long quiet;
    private long angle;
    private long integral;
    private long error;
    private long activeSet;
    private long reactiveSet;
    private long wish;
    private long active;
    private long reactive;
    private long energy;
    private long[] grid;
    private long gridAngle;

    long set(long i, long value) {
        index(i >= 0 && i < 12);
        argument(value >= bounds[(int) i][0] && value <= bounds[(int) i][1]);
        state(!wished);
        long was = set[(int) i];
        set[(int) i] = value;
        checked = false;
        return was;
    }

    void point(boolean isCurve, long k, long kind, long level, long time) {
        long[][] rows = isCurve ? curves : stays;
        index(k >= 0 && k < rows.length);
        argument(kind >= 0 && kind <= 4 && level >= 0 && level <= 100000 && time >= 1 && time <= 1000);
        state(!wished);
        rows[(int) k] = new long[] {kind, level, time, 0};
        checked = false;
    }

    long check() {
        long answer = -1;
        for (int k = 5; k >= 0; k--) {
            for (long[] stay : stays) {
                long[] c = curves[k];
                boolean inner = c[0] % 2 == 1 ? c[1] > stay[1] : c[1] < stay[1];
                if (c[0] != 0 && c[0] == stay[0] && c[2] <= stay[2] && inner) {
                    answer = 100 + k;
                }
            }
        }
        answer = set[5] > set[6] ? 5 : answer;
        answer = set[3] > set[4] ? 3 : answer;
        checked = answer == -1;
        return answer;
    }

    long on() {
        state(checked && !locked);
        boolean was = wished;
        wished = true;
        return was ? 0 : 1;
    }

    long off() {
        boolean was = wished;
        if (ordered) {
            happened(2);
        }
        wished = false;
        ordered = false;
        return was ? 1 : 0;
    }

    void seen(boolean closed) {
        seen = closed;
    }

    long reset() {
        if (locked && !seen) {
            locked = false;
            happened(4);
            return 1;
        }
        return 0;
    }

    void power(long a, long r) {
        argument(a >= 0 && a <= 20000 && r >= -20000 && r <= 20000);
        activeSet = a;
        reactiveSet = r;
    }

    long sample(long a, long b, long c) {
        argument(Math.min(a, Math.min(b, c)) >= -32768 && Math.max(a, Math.max(b, c)) <= 32767);
        step(a, b, c);
        return 65536 * active + reactive;
    }

    void grid(long amplitude, long frequency, long jump) {
        argument(amplitude >= 0 && amplitude <= 20000 && frequency >= 40000 && frequency <= 70000);
        grid = new long[] {amplitude, frequency};
        gridAngle += jump;
    }

    long run(long n) {
        argument(n >= 1 && n <= 500);
        state(grid != null);
        long closed = 0;
        for (int i = 0; i < n; i++) {
            long third = 1431655765L;
            step(phase(gridAngle), phase(gridAngle - third), phase(gridAngle + third));
            gridAngle += grid[1] * TURN / 10000000;
            closed += ordered ? 1 : 0;
        }
        return closed;
    }

    long signal(long what) {
        index(what >= 0 && what < 6);
        long m = magnitudes.isEmpty() ? 0 : magnitudes.get(magnitudes.size() - 1);
        return new long[] {(int) angle, frequency(), voltage(), integral, error, m}[(int) what];
    }

    long state(long what) {
        index(what >= 0 && what < 12);
        return new long[] {ordered ? 1 : 0, seen ? 1 : 0, wished ? 1 : 0, locked ? 1 : 0, checked ? 1 : 0, missed,
            quiet, wish, active, reactive, magnitudes.size(), events.size()}[(int) what];
    }

    long count(long k) {
        index(k >= 0 && k < 6);
        return curves[(int) k][3];
    }

    long energy() {
        return energy;
    }

    long event(long i, long what) {
        index(i >= 0 && i < 16 && i < events.size() && what >= 0 && what <= 1);
        return events.get(events.size() - 1 - (int) i)[(int) what];
    }

    private void step(long a, long b, long c) {
        follow(a, b, c);
        // The steps that an event tells are those without the one in which it was.
        List<Integer> inThisStep = new ArrayList<>();
        int trip = trip();
        if (trip >= 0 && ordered) {
            ordered = false;
            inThisStep.add(10 + trip);
        }
        boolean calm = trip < 0 && voltage() >= set[3] && voltage() <= set[4] && frequency() >= set[5]
            && frequency() <= set[6];
        quiet = calm ? Math.min(1000, quiet + 1) : 0;
        if (!ordered && wished && !locked && quiet >= set[2]) {
            ordered = true;
            inThisStep.add(1);
        }
        missed = seen == ordered ? 0 : missed + 1;
        if (missed >= set[11]) {
            locked = true;
            wished = false;
            ordered = false;
            missed = 0;
            inThisStep.add(3);
        }
        command();
        energy += active * voltage();
        for (int number : inThisStep) {
            events.add(new long[] {number, magnitudes.size() - 1});
        }
    }

    private void follow(long a, long b, long c) {
        long x = 2 * a - b - c;
        long y = (b - c) * 1774 >> 10;
        long m = root(x * x + y * y);
        error = (y * sine(angle + TURN / 4) - x * sine(angle)) / (m + 1);
        integral += 2 * error;
        integral = integral > 4000000 ? 4000000 : integral < -4000000 ? -4000000 : integral;
        long pace = 21474836 + integral + 200 * error;
        angle += pace;
        magnitudes.add(m);
        paces.add(pace);
    }

    private int trip() {
        int least = -1;
        for (int k = 5; k >= 0; k--) {
            long[] c = curves[k];
            long value = c[0] <= 2 ? voltage() : frequency();
            boolean beyond = c[0] % 2 == 1 ? value < c[1] : c[0] != 0 && value > c[1];
            c[3] = beyond ? Math.min(c[2], c[3] + 1) : 0;
            least = c[0] != 0 && c[3] == c[2] ? k : least;
        }
        return least;
    }

    private void command() {
        if (!ordered) {
            wish = 0;
            active = 0;
            reactive = 0;
            return;
        }
        long limit = set[0];
        long droop = frequency() > set[7] ? set[8] * ((frequency() - set[7]) / 100) : 0;
        long target = Math.min(limit, Math.max(0, activeSet - droop));
        wish = target > wish ? Math.min(target, wish + set[1]) : Math.max(target, wish - set[1]);
        long other = reactiveSet + set[10] * (10000 - voltage()) / 100;
        other = Math.max(-limit, Math.min(limit, other));
        if (set[9] == 1) {
            reactive = other;
            active = Math.min(wish, root(limit * limit - reactive * reactive));
        } else {
            active = Math.min(wish, limit);
            long room = root(limit * limit - active * active);
            reactive = Math.max(-room, Math.min(room, other));
        }
    }

    private long voltage() {
        return latest(magnitudes, 16, 0) / 48;
    }

    private long frequency() {
        return latest(paces, 32, 21474836) * 10000000 / 137438953472L;
    }

    private static long latest(List<Long> all, int many, long before) {
        long sum = 0;
        for (int i = 1; i <= many; i++) {
            sum += i <= all.size() ? all.get(all.size() - i) : before;
        }
        return sum;
    }

    private long phase(long w) {
        return grid[0] * sine(w + TURN / 4) / 16384;
    }

    private static long sine(long w) {
        long high = Math.floorMod(w, TURN) / 65536;
        long u = high % 32768;
        return high / 32768 == 1 ? -(u * (32768 - u) / 16384) : u * (32768 - u) / 16384;
    }

    private static long root(long n) {
        return BigInteger.valueOf(n).sqrt().longValue();
    }

    private void happened(long number) {
        events.add(new long[] {number, magnitudes.size()});
    }

    private static void index(boolean holds) {
        if (!holds) {
            throw new IndexOutOfBoundsException();
        }
    }

    private static void argument(boolean holds) {
        if (!holds) {
            throw new IllegalArgumentException();
        }
    }

    private static void state(boolean holds) {
        if (!holds) {
            throw new IllegalStateException();
        }
    }
}

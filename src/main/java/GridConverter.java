import java.util.Arrays;

/** The control of a converter that feeds a grid of three phases, in whole numbers. */
public final class GridConverter {
    public static final int NONE = -1;

    private static final int LIMIT = 0;
    private static final int RAMP = 1;
    private static final int NEEDED = 2;
    private static final int LEAST_VOLTAGE = 3;
    private static final int GREATEST_VOLTAGE = 4;
    private static final int LEAST_FREQUENCY = 5;
    private static final int GREATEST_FREQUENCY = 6;
    private static final int DROOP_FROM = 7;
    private static final int DROOP = 8;
    private static final int PRIORITY = 9;
    private static final int SLOPE = 10;
    private static final int PATIENCE = 11;

    private static final int[] LEAST_VALUES = {0, 1, 1, 0, 0, 40000, 40000, 40000, 0, 0, 0, 1};
    private static final int[] GREATEST_VALUES =
        {20000, 2000, 500, 20000, 20000, 70000, 70000, 70000, 2000, 1, 100, 200};
    private static final int[] FIRST_VALUES = {10000, 100, 20, 9000, 11000, 49500, 50500, 50200, 0, 0, 0, 20};

    private static final int NO_KIND = 0;
    private static final int VOLTAGE_UNDER = 1;
    private static final int VOLTAGE_OVER = 2;
    private static final int FREQUENCY_UNDER = 3;
    private static final int FREQUENCY_OVER = 4;
    private static final int MOST_LEVEL = 100000;
    private static final int MOST_TIME = 1000;
    private static final int CURVES = 6;
    private static final int STAY_POINTS = 4;
    private static final int CUT = 100;

    private static final int CLOSED_BY_QUIET = 1;
    private static final int OPENED_BY_OFF = 2;
    private static final int LOCKED_BY_MISSED = 3;
    private static final int UNLOCKED_BY_RESET = 4;
    private static final int TRIPPED = 10;

    private static final int MOST_POWER = 20000;
    private static final int MOST_QUIET = 1000;
    private static final int MOST_STEPS = 500;
    private static final int LEAST_SAMPLE = -32768;
    private static final int GREATEST_SAMPLE = 32767;

    private static final int UNIT = 16384;
    private static final int QUARTER_TURN = 1073741824;
    private static final int THIRD_OF_TURN = 1431655765;
    private static final long WHOLE_TURN = 4294967296L;
    /** Frequencies are thousandths of a hertz, and so is this rate of ten thousand steps a second. */
    private static final long STEP_RATE = 10000000L;

    private final int[] settings;
    private final Loop loop;
    private final Protection protection;
    private final Contactor contactor;
    private final Commands commands;
    private final OwnGrid ownGrid;
    private final Events events;
    private boolean checked;
    private int steps;
    private long energy;

    public GridConverter() {
        settings = FIRST_VALUES.clone();
        loop = new Loop();
        protection = new Protection();
        contactor = new Contactor();
        commands = new Commands();
        ownGrid = new OwnGrid();
        events = new Events();
    }

    public int set(int i, int value)
            throws IndexOutOfBoundsException, IllegalArgumentException, IllegalStateException {
        if (!isWithin(i, 0, settings.length - 1)) {
            throw new IndexOutOfBoundsException("no such setting");
        }
        if (!isWithin(value, LEAST_VALUES[i], GREATEST_VALUES[i])) {
            throw new IllegalArgumentException("no value of this setting");
        }
        refuseWhenOnIsWished();
        int before = settings[i];
        settings[i] = value;
        checked = false;
        return before;
    }

    public void curve(int k, int kind, int level, int time)
            throws IndexOutOfBoundsException, IllegalArgumentException, IllegalStateException {
        place(protection.curves, k, kind, level, time);
    }

    public void stay(int k, int kind, int level, int time)
            throws IndexOutOfBoundsException, IllegalArgumentException, IllegalStateException {
        place(protection.stayPoints, k, kind, level, time);
    }

    public int check() {
        int fault = firstFault();
        checked = fault == NONE;
        return fault;
    }

    public boolean on() throws IllegalStateException {
        if (!checked || contactor.locked) {
            throw new IllegalStateException("not checked, or locked");
        }
        boolean before = contactor.onWished;
        contactor.onWished = true;
        return !before;
    }

    public boolean off() {
        boolean before = contactor.onWished;
        contactor.onWished = false;
        if (contactor.orderedClosed) {
            contactor.orderedClosed = false;
            events.note(OPENED_BY_OFF, steps);
        }
        return before;
    }

    public void seen(boolean closed) {
        contactor.seenClosed = closed;
    }

    public boolean reset() {
        if (!contactor.locked || contactor.seenClosed) {
            return false;
        }
        contactor.locked = false;
        events.note(UNLOCKED_BY_RESET, steps);
        return true;
    }

    public void power(int active, int reactive) throws IllegalArgumentException {
        if (!isWithin(active, 0, MOST_POWER) || !isWithin(reactive, -MOST_POWER, MOST_POWER)) {
            throw new IllegalArgumentException("no such power");
        }
        commands.activeSet = active;
        commands.reactiveSet = reactive;
    }

    public int sample(int a, int b, int c) throws IllegalArgumentException {
        if (!isSample(a) || !isSample(b) || !isSample(c)) {
            throw new IllegalArgumentException("no such sample");
        }
        step(a, b, c);
        return 65536 * commands.active + commands.reactive;
    }

    public void grid(int amplitude, int frequency, int jump) throws IllegalArgumentException {
        if (!isWithin(amplitude, 0, 20000) || !isWithin(frequency, 40000, 70000)) {
            throw new IllegalArgumentException("no such grid");
        }
        ownGrid.become(amplitude, frequency, jump);
    }

    public int run(int n) throws IllegalArgumentException, IllegalStateException {
        if (!isWithin(n, 1, MOST_STEPS)) {
            throw new IllegalArgumentException("no such number of steps");
        }
        if (!ownGrid.exists) {
            throw new IllegalStateException("no grid");
        }
        int closedSteps = 0;
        for (int i = 0; i < n; i++) {
            step(ownGrid.phase(0), ownGrid.phase(-THIRD_OF_TURN), ownGrid.phase(THIRD_OF_TURN));
            ownGrid.turn();
            if (contactor.orderedClosed) {
                closedSteps++;
            }
        }
        return closedSteps;
    }

    public int signal(int what) throws IndexOutOfBoundsException {
        switch (what) {
            case 0: return loop.angle;
            case 1: return loop.frequency;
            case 2: return loop.voltage;
            case 3: return loop.integral;
            case 4: return loop.error;
            case 5: return loop.magnitude;
            default: throw new IndexOutOfBoundsException("no such signal");
        }
    }

    public int state(int what) throws IndexOutOfBoundsException {
        switch (what) {
            case 0: return asNumber(contactor.orderedClosed);
            case 1: return asNumber(contactor.seenClosed);
            case 2: return asNumber(contactor.onWished);
            case 3: return asNumber(contactor.locked);
            case 4: return asNumber(checked);
            case 5: return contactor.missed;
            case 6: return contactor.quiet;
            case 7: return commands.wish;
            case 8: return commands.active;
            case 9: return commands.reactive;
            case 10: return steps;
            case 11: return events.total;
            default: throw new IndexOutOfBoundsException("no such state");
        }
    }

    public int count(int k) throws IndexOutOfBoundsException {
        if (!isWithin(k, 0, CURVES - 1)) {
            throw new IndexOutOfBoundsException("no such curve");
        }
        return protection.curves[k].count;
    }

    public long energy() {
        return energy;
    }

    public int event(int i, int what) throws IndexOutOfBoundsException {
        if (!events.has(i) || !isWithin(what, 0, 1)) {
            throw new IndexOutOfBoundsException("no such event");
        }
        return what == 0 ? events.numberOf(i) : events.stepsAt(i);
    }

    private void refuseWhenOnIsWished() {
        if (contactor.onWished) {
            throw new IllegalStateException("on is wished");
        }
    }

    private void place(Point[] points, int k, int kind, int level, int time) {
        if (!isWithin(k, 0, points.length - 1)) {
            throw new IndexOutOfBoundsException("no such point");
        }
        if (!isWithin(kind, NO_KIND, FREQUENCY_OVER) || !isWithin(level, 0, MOST_LEVEL)
                || !isWithin(time, 1, MOST_TIME)) {
            throw new IllegalArgumentException("no such kind, level or time");
        }
        refuseWhenOnIsWished();
        points[k].become(kind, level, time);
        checked = false;
    }

    private int firstFault() {
        if (settings[LEAST_VOLTAGE] > settings[GREATEST_VOLTAGE]) {
            return LEAST_VOLTAGE;
        }
        if (settings[LEAST_FREQUENCY] > settings[GREATEST_FREQUENCY]) {
            return LEAST_FREQUENCY;
        }
        int cutting = protection.leastCutting();
        return cutting == NONE ? NONE : CUT + cutting;
    }

    private void step(int a, int b, int c) {
        loop.follow(a, b, c);
        protection.watch(loop.voltage, loop.frequency);
        int tripping = protection.leastTripping();
        openByCurve(tripping);
        closeByQuiet(tripping == NONE && isGridQuiet());
        lockByMissed();
        if (contactor.orderedClosed) {
            commands.approach(settings, loop.voltage, loop.frequency);
        } else {
            commands.clear();
        }
        energy += (long) commands.active * loop.voltage;
        steps++;
    }

    private void openByCurve(int tripping) {
        if (tripping != NONE && contactor.orderedClosed) {
            contactor.orderedClosed = false;
            events.note(TRIPPED + tripping, steps);
        }
    }

    private void closeByQuiet(boolean isQuiet) {
        contactor.countQuiet(isQuiet);
        if (contactor.mayClose(settings[NEEDED])) {
            contactor.orderedClosed = true;
            events.note(CLOSED_BY_QUIET, steps);
        }
    }

    private void lockByMissed() {
        contactor.countMissed();
        if (contactor.missed >= settings[PATIENCE]) {
            contactor.lock();
            events.note(LOCKED_BY_MISSED, steps);
        }
    }

    private boolean isGridQuiet() {
        return isWithin(loop.voltage, settings[LEAST_VOLTAGE], settings[GREATEST_VOLTAGE])
            && isWithin(loop.frequency, settings[LEAST_FREQUENCY], settings[GREATEST_FREQUENCY]);
    }

    private static boolean isSample(int value) {
        return isWithin(value, LEAST_SAMPLE, GREATEST_SAMPLE);
    }

    private static boolean isWithin(int value, int least, int greatest) {
        return value >= least && value <= greatest;
    }

    private static int limited(int value, int least, int greatest) {
        return Math.max(least, Math.min(greatest, value));
    }

    private static int asNumber(boolean holds) {
        return holds ? 1 : 0;
    }

    private static int sine(int w) {
        int u = (w >>> 16) & 32767;
        int height = u * (32768 - u) / UNIT;
        return w < 0 ? -height : height;
    }

    private static int cosine(int w) {
        return sine(w + QUARTER_TURN);
    }

    /** Eighteen bits are enough: no sum of squares here reaches 2 to the 36th. */
    private static int root(long square) {
        long found = 0;
        for (int bit = 17; bit >= 0; bit--) {
            long next = found + (1L << bit);
            if (next * next <= square) {
                found = next;
            }
        }
        return (int) found;
    }

    /** Follows the grid's angle; voltage and frequency are means over rings of its latest steps. */
    private static final class Loop {
        private static final int REST_PACE = 21474836;
        private static final int MOST_INTEGRAL = 4000000;
        private static final int MAGNITUDES = 16;
        private static final int PACES = 32;

        private final int[] magnitudes = new int[MAGNITUDES];
        private final int[] paces = new int[PACES];
        private int latestMagnitude;
        private int latestPace;
        private long magnitudeSum;
        private long paceSum;
        private int angle;
        private int integral;
        private int error;
        private int magnitude;
        private int voltage;
        private int frequency;

        Loop() {
            Arrays.fill(paces, REST_PACE);
            paceSum = (long) PACES * REST_PACE;
            frequency = meanFrequency(paceSum);
        }

        void follow(int a, int b, int c) {
            int x = 2 * a - b - c;
            int y = Math.floorDiv((b - c) * 1774, 1024);
            magnitude = root((long) x * x + (long) y * y);
            error = (int) (((long) y * cosine(angle) - (long) x * sine(angle)) / (magnitude + 1));
            integral = limited(integral + 2 * error, -MOST_INTEGRAL, MOST_INTEGRAL);
            int pace = REST_PACE + integral + 200 * error;
            angle += pace;
            keepMagnitude();
            keepPace(pace);
        }

        private void keepMagnitude() {
            latestMagnitude = (latestMagnitude + 1) % MAGNITUDES;
            magnitudeSum += magnitude - magnitudes[latestMagnitude];
            magnitudes[latestMagnitude] = magnitude;
            voltage = (int) (magnitudeSum / 48);
        }

        private void keepPace(int pace) {
            latestPace = (latestPace + 1) % PACES;
            paceSum += pace - paces[latestPace];
            paces[latestPace] = pace;
            frequency = meanFrequency(paceSum);
        }

        private static int meanFrequency(long sum) {
            return (int) (sum * STEP_RATE / (PACES * WHOLE_TURN));
        }
    }

    /** A curve or a stay point; only a curve counts. */
    private static final class Point {
        private int kind = NO_KIND;
        private int level;
        private int time = 1;
        private int count;

        void become(int newKind, int newLevel, int newTime) {
            kind = newKind;
            level = newLevel;
            time = newTime;
            count = 0;
        }

        void watch(int voltage, int frequency) {
            count = isBeyond(voltage, frequency) ? Math.min(count + 1, time) : 0;
        }

        boolean isTripping() {
            return kind != NO_KIND && count == time;
        }

        boolean isCutting(Point stayPoint) {
            if (kind == NO_KIND || kind != stayPoint.kind || time > stayPoint.time) {
                return false;
            }
            boolean isUnder = kind == VOLTAGE_UNDER || kind == FREQUENCY_UNDER;
            return isUnder ? level > stayPoint.level : level < stayPoint.level;
        }

        private boolean isBeyond(int voltage, int frequency) {
            switch (kind) {
                case VOLTAGE_UNDER: return voltage < level;
                case VOLTAGE_OVER: return voltage > level;
                case FREQUENCY_UNDER: return frequency < level;
                case FREQUENCY_OVER: return frequency > level;
                default: return false;
            }
        }
    }

    /** The curves, and the stay points that they must not cut. */
    private static final class Protection {
        private final Point[] curves = new Point[CURVES];
        private final Point[] stayPoints = new Point[STAY_POINTS];

        Protection() {
            for (int i = 0; i < CURVES; i++) {
                curves[i] = new Point();
            }
            for (int i = 0; i < STAY_POINTS; i++) {
                stayPoints[i] = new Point();
            }
        }

        void watch(int voltage, int frequency) {
            for (int i = 0; i < CURVES; i++) {
                curves[i].watch(voltage, frequency);
            }
        }

        int leastTripping() {
            for (int i = 0; i < CURVES; i++) {
                if (curves[i].isTripping()) {
                    return i;
                }
            }
            return NONE;
        }

        int leastCutting() {
            for (int i = 0; i < CURVES; i++) {
                if (isCuttingAny(curves[i])) {
                    return i;
                }
            }
            return NONE;
        }

        private boolean isCuttingAny(Point curve) {
            for (int i = 0; i < STAY_POINTS; i++) {
                if (curve.isCutting(stayPoints[i])) {
                    return true;
                }
            }
            return false;
        }
    }

    /** What is ordered of the contactor, how it is seen, and what keeps it from closing. */
    private static final class Contactor {
        private boolean orderedClosed;
        private boolean seenClosed;
        private boolean onWished;
        private boolean locked;
        private int missed;
        private int quiet;

        void countQuiet(boolean isQuiet) {
            quiet = isQuiet ? Math.min(quiet + 1, MOST_QUIET) : 0;
        }

        boolean mayClose(int needed) {
            return !orderedClosed && onWished && !locked && quiet >= needed;
        }

        void countMissed() {
            missed = seenClosed != orderedClosed ? missed + 1 : 0;
        }

        void lock() {
            locked = true;
            onWished = false;
            orderedClosed = false;
            missed = 0;
        }
    }

    /** The powers that were set, and the commands that come of them. */
    private static final class Commands {
        private int activeSet;
        private int reactiveSet;
        private int wish;
        private int active;
        private int reactive;

        void clear() {
            wish = 0;
            active = 0;
            reactive = 0;
        }

        void approach(int[] settings, int voltage, int frequency) {
            int limit = settings[LIMIT];
            int ramp = settings[RAMP];
            wish += limited(activeTarget(settings, frequency) - wish, -ramp, ramp);
            int sloped = settings[SLOPE] * (10000 - voltage) / 100;
            int reactiveWish = limited(reactiveSet + sloped, -limit, limit);
            if (settings[PRIORITY] == 0) {
                active = Math.min(wish, limit);
                int rest = restOf(limit, active);
                reactive = limited(reactiveWish, -rest, rest);
            } else {
                reactive = reactiveWish;
                active = Math.min(wish, restOf(limit, reactive));
            }
        }

        private int activeTarget(int[] settings, int frequency) {
            int target = activeSet;
            if (frequency > settings[DROOP_FROM]) {
                target -= settings[DROOP] * ((frequency - settings[DROOP_FROM]) / 100);
            }
            return limited(target, 0, settings[LIMIT]);
        }

        /** What a vector of this limit has left across its one part. */
        private static int restOf(int limit, int part) {
            return root((long) limit * limit - (long) part * part);
        }
    }

    /** The grid of its own that can be asked for samples. */
    private static final class OwnGrid {
        private boolean exists;
        private int amplitude;
        private int pace;
        private int angle;

        void become(int newAmplitude, int newFrequency, int jump) {
            exists = true;
            amplitude = newAmplitude;
            pace = (int) (newFrequency * WHOLE_TURN / STEP_RATE);
            angle += jump;
        }

        int phase(int shift) {
            return amplitude * cosine(angle + shift) / UNIT;
        }

        void turn() {
            angle += pace;
        }
    }

    /** The latest sixteen events in a ring, and how many there ever were. */
    private static final class Events {
        private static final int KEPT = 16;

        private final int[] numbers = new int[KEPT];
        private final int[] stepCounts = new int[KEPT];
        private int total;

        void note(int number, int steps) {
            numbers[placeOf(total)] = number;
            stepCounts[placeOf(total)] = steps;
            total++;
        }

        boolean has(int i) {
            return isWithin(i, 0, Math.min(total, KEPT) - 1);
        }

        int numberOf(int i) {
            return numbers[placeOf(total - 1 - i)];
        }

        int stepsAt(int i) {
            return stepCounts[placeOf(total - 1 - i)];
        }

        /** A floor modulus, for a total that wraps must not lead out of the ring. */
        private static int placeOf(int nth) {
            return Math.floorMod(nth, KEPT);
        }
    }
}

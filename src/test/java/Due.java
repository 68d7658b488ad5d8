/** Keeps what a test found wrong, prints it, and ends the test with exit code 1 if there was something. */
final class Due {
    interface Call {
        void make();
    }

    private final String test;
    private int asked;
    private int wrong;

    Due(String test) {
        this.test = test;
    }

    void same(String call, long got, long want) {
        asked++;
        if (got != want) {
            tell(call + " answered " + got + ", due is " + want);
        }
    }

    void same(String call, boolean got, boolean want) {
        same(call, got ? 1 : 0, want ? 1 : 0);
    }

    void same(String call, String got, String want) {
        asked++;
        if (!got.equals(want)) {
            tell(call + " answered " + got + ", due is " + want);
        }
    }

    void same(String call, long[] got, long[] want) {
        same(call + ": how many answers", got.length, want.length);
        for (int i = 0; i < Math.min(got.length, want.length); i++) {
            same(call + ": answer " + i, got[i], want[i]);
        }
    }

    void index(String call, Call made) {
        thrown(call, made, IndexOutOfBoundsException.class);
    }

    void argument(String call, Call made) {
        thrown(call, made, IllegalArgumentException.class);
    }

    void state(String call, Call made) {
        thrown(call, made, IllegalStateException.class);
    }

    void end() {
        System.out.println(test + ": " + asked + " asked, " + wrong + " wrong");
        if (wrong != 0) {
            System.exit(1);
        }
    }

    void thrown(String call, Call made, Class<?> want) {
        asked++;
        Class<?> got = null;
        try {
            made.make();
        } catch (RuntimeException e) {
            got = e.getClass();
        }
        if (got != want) {
            tell(call + " threw " + got + ", due is " + want);
        }
    }

    private void tell(String text) {
        wrong++;
        System.out.println(test + ": " + text);
    }
}

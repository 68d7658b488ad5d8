/** Calls that must be refused, or do nothing, in one state: each is made on an object of its own. */
final class Refusal {
    interface Call {
        void on(GridConverter x);
    }

    private final Due due;
    private final String where;
    private final Picture.Making making;
    private final long[] untouched;

    Refusal(Due due, String where, Picture.Making making) {
        this.due = due;
        this.where = where;
        this.making = making;
        this.untouched = Picture.throughout(making);
    }

    void index(String call, Call made) {
        refused(call, made, IndexOutOfBoundsException.class);
    }

    void argument(String call, Call made) {
        refused(call, made, IllegalArgumentException.class);
    }

    void state(String call, Call made) {
        refused(call, made, IllegalStateException.class);
    }

    /** A call that is answered, but changes nothing. */
    void idle(String call, Call made) {
        due.same(where + call + " changes nothing", Picture.throughout(() -> after(made)), untouched);
    }

    private void refused(String call, Call made, Class<?> want) {
        GridConverter x = making.make();
        due.thrown(where + call, () -> made.on(x), want);
        idle(call, made);
    }

    private GridConverter after(Call made) {
        GridConverter x = making.make();
        try {
            made.on(x);
        } catch (RuntimeException e) {
            return x;
        }
        return x;
    }
}

import java.util.ArrayList;
import java.util.List;

/** Two objects made by the same calls: one is asked something, the other is not; then they are compared whole. */
final class Twins {
    static final int BAD = 0, NO = 1, FULL = 2;
    private static final int NO_STATUS = -1;

    interface Made {
        LongYear make();
    }

    interface Call {
        long on(LongYear x);
    }

    private final Due due;

    Twins(Due due) {
        this.due = due;
    }

    /** The call is refused so, and changes nothing but that STATUS, by one. */
    void refused(String what, Made made, Call call, long answer, int status) {
        compare(what, made, call, answer, status);
    }

    /** The call answers so, is no refusal, and changes nothing at all. */
    void changesNothing(String what, Made made, Call call, long answer) {
        compare(what, made, call, answer, NO_STATUS);
    }

    private void compare(String what, Made made, Call call, long answer, int status) {
        LongYear asked = made.make(), other = made.make();
        due.is(what, call.on(asked), answer);
        for (int s = 0; s < 3; s++) {
            due.is(what + ": STATUS " + s + " is more by", asked.status(s) - other.status(s), s == status ? 1 : 0);
        }
        due.holds(what + ": all else stays", traceOf(asked).equals(traceOf(other)));
    }

    /** All that can be seen of an object, and of what it keeps out of sight: YEARS to undo, IMAGES, THE TEXT. */
    private static List<Long> traceOf(LongYear x) {
        List<Long> trace = new ArrayList<>();
        look(x, trace);
        undoAll(x, trace);
        for (int i = 0; i < 2; i++) {
            trace.add((long) x.from(i));
            look(x, trace);
            undoAll(x, trace);
        }
        trace.add((long) x.read());
        look(x, trace);
        return trace;
    }

    private static void look(LongYear x, List<Long> trace) {
        for (int what = 0; what <= 13; what++) trace.add((long) x.count(what));
        trace.add(x.digest());
        trace.add(x.part(0));
        trace.add(x.part(1));
        trace.add((long) x.cleared());
        trace.add((long) x.liars(0));
        trace.add((long) x.bears());
        trace.add((long) x.fields());
    }

    private static void undoAll(LongYear x, List<Long> trace) {
        for (int left = x.count(12); left > 0; left--) {
            trace.add((long) x.undo());
            trace.add(x.digest());
        }
    }
}

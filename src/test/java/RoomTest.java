import com.sun.management.ThreadMXBean;
import java.lang.management.ManagementFactory;

/** No call throws for any arguments in any state, and no call makes an object. */
public final class RoomTest {
    private static final Due due = new Due("RoomTest");
    private static final int[] FAR = {Integer.MIN_VALUE, Integer.MIN_VALUE + 1, -100000, -2, -1, 0, 1, 2, 3, 5, 6, 9, 20,
        59, 60, 61, 127, 128, 150, 200, 999, 1000, 9999, 10000, 65536, Integer.MAX_VALUE - 1, Integer.MAX_VALUE};
    private static long drawn = 7;
    private static long heard;

    public static void main(String[] args) {
        for (int run = 0; run < 200; run++) neverThrows();
        longBeyondItsCalls();
        room();
        due.end();
    }

    private static int far() {
        drawn = drawn * 6364136223846793005L + 1442695040888963407L;
        int die = (int) (drawn >>> 40) & 0xffff;
        return die % 3 == 0 ? FAR[die / 3 % FAR.length] : die / 3 % 10;
    }

    private static void neverThrows() {
        LongYear x = new LongYear();
        for (int i = 0; i < 511; i++) any(x, (far() & 0x7fffffff) % 19 * 2 + (i & 1));
        due.holds("it answers", x.count(0) >= 2);
    }

    private static void any(LongYear x, int which) {
        int a = far(), b = far(), c = far();
        switch (which) {
            case 0: x.year(a); break;
            case 1: x.store(a, b); break;
            case 2: x.family(a, b, c); break;
            case 3: x.job(a, b); break;
            case 4: x.type(a); break;
            case 5: x.clear(); break;
            case 6: x.read(); break;
            case 7: x.pass(a); break;
            case 8: x.undo(); break;
            case 9: x.about(a, b); break;
            case 10: x.eats(a, b); break;
            case 11: x.fields(); break;
            case 12: x.plan(Math.min(a, 3), b); break;
            case 13: x.want(a); break;
            case 14: x.held(a); break;
            case 15: x.chance(a, b); break;
            case 16: x.teachers(a); break;
            case 17: x.debt(a, b, c); break;
            case 18: x.rate(a); break;
            case 19: x.net(a); break;
            case 20: x.cleared(); break;
            case 21: x.report(a, b, c); break;
            case 22: x.liars(a); break;
            case 23: x.none(a); break;
            case 24: x.lots(a, b); break;
            case 25: x.word(a, b, c, 1, 2, 3); break;
            case 26: x.toldOn(a, b, c); break;
            case 27: x.apart(a, b); break;
            case 28: x.bears(); break;
            case 29: x.meant(a, b, c, 1, 2, 3); break;
            case 30: x.meet(a, b); break;
            case 31: x.part(a); break;
            case 32: x.image(a); break;
            case 33: x.from(a); break;
            case 34: x.status(a); break;
            case 35: x.count(a); break;
            default: x.digest(); break;
        }
    }

    private static LongYear full() {
        LongYear x = Due.told("year 7;store 0 9999;store 1 999;store 2 999;family 4 9 9;family 3 9 9;family 2 9 9;"
            + "family 1 9 9;family 0 9 9;family 0 9 0;");
        for (int d = 0; d < 8; d++) x.debt(d % 6, (d + 1) % 6, 100 + d);
        for (int r = 0; r < 10; r++) x.report(r % 3, r % 6, r % 4);
        for (int w = 0; w < 4; w++) x.word(w, w, w, 1, 1, 1);
        return x;
    }

    private static void longBeyondItsCalls() {
        LongYear x = full();
        for (int i = 0; i < 20000; i++) x.pass(20);
        due.is("nothing is promised, but it goes on", x.count(1), 400000);
        due.is("and back", x.undo(), 1);
    }

    /** The dearest calls, once they have been run, take no room at all. */
    private static void room() {
        if (!(ManagementFactory.getThreadMXBean() instanceof ThreadMXBean threads)) return;
        if (!threads.isThreadAllocatedMemorySupported() || !threads.isThreadAllocatedMemoryEnabled()) return;
        LongYear x = full();
        for (int i = 0; i < 3; i++) dearest(x);
        long self = Thread.currentThread().getId();
        long before = threads.getThreadAllocatedBytes(self);
        for (int i = 0; i < 10; i++) dearest(x);
        long bytes = threads.getThreadAllocatedBytes(self) - before;
        due.holds(bytes + " bytes for 10 rounds of all calls are next to none; heard " + heard, bytes < 4096);
    }

    private static void dearest(LongYear x) {
        heard += x.plan(5, -1) + x.held(200) + x.want(200) + x.chance(56, 3) + x.teachers(60) + x.cleared();
        heard += x.liars(0) + x.liars(1) + x.read() + x.digest() + x.meet(69, 1) + x.lots(5, 6) + x.bears();
        heard += x.meant(1, 2, 3, 4, 5, 6) + x.pass(20) + x.undo() + x.image(0) + x.from(0) + x.image(1) + x.fields();
        heard += x.family(0, 1, 1) + x.debt(0, 1, 1) + x.report(1, 1, 1) + x.word(1, 1, 1, 1, 1, 1) + x.toldOn(0, 30, 1);
    }
}

/** Promises 33 to 38 where the document names an edge: each sentence on its own. */
public final class KeepEdgesTest {
    private static final Due due = new Due("KeepEdgesTest");
    private static final int NO = LongYear.NO, BAD = LongYear.BAD, FULL = LongYear.FULL;

    public static void main(String[] args) {
        partAtFirst();
        partStaysAtRefusals();
        imageOfANewObject();
        imageIsOfThatTime();
        imagesKeepAllButFour();
        imageKeepsWhatMayBeUndone();
        imageOutlastsAll();
        fromAmongOtherThings();
        fromOneToTheOther();
        eachRefusalIsCounted();
        statusOfAnother();
        eachCount();
        countsAreFullAtMost();
        digestOfANewObject();
        digestHasEachOfThem();
        digestOfAFullObject();
        due.end();
    }

    private static void partAtFirst() {
        LongYear x = new LongYear();
        due.is("33: 0", x.part(0), 0);
        due.is("33: by 1", x.part(1), 1);
        due.is("33: another", x.part(2), BAD);
        due.is("33: another", x.part(-1), BAD);
        due.is("36: both count", x.status(0), 2);
    }

    private static void partStaysAtRefusals() {
        LongYear x = Lumps.rich();
        due.is("33: it was asked", x.part(0) * 10 + x.part(1), 35);
        x.chance(61, 0);
        x.chance(0, 11);
        due.is("33: it stays at BAD", x.part(0) * 10 + x.part(1), 35);
        x.chance(60, 5);
        due.is("33: it stays at NO", x.part(0) * 10 + x.part(1), 35);
        x.year(3);
        due.is("33: it stays at a year", x.part(0) * 10 + x.part(1), 35);
        x.chance(0, 5);
        due.is("33: asked anew", x.part(0) * 10 + x.part(1), 11);
    }

    private static void imageOfANewObject() {
        LongYear x = new LongYear();
        due.is("35: none was kept", x.from(0), NO);
        due.is("34: kept", x.image(1), 1);
        due.is("35: the other one was not", x.from(0), NO);
        x.year(3);
        x.family(0, 1, 1);
        x.pass(2);
        due.is("35: from it", x.from(1), 1);
        due.is("35: as at first", x.digest(), new LongYear().digest());
        due.is("10: nothing to undo", x.undo(), NO);
        due.is("34: IMAGE 2", x.image(2), BAD);
        due.is("34: IMAGE -1", x.image(-1), BAD);
        due.is("35: IMAGE 2", x.from(2), BAD);
        due.is("35: IMAGE -1", x.from(-1), BAD);
        due.is("36: as BAD", x.status(0), 4);
        due.is("36: as NO", x.status(1), 3);
    }

    private static void imageIsOfThatTime() {
        LongYear x = new LongYear();
        for (int n = 1; n <= 5; n++) {
            x.store(0, n);
            due.is("34: kept anew", x.image(0), 1);
        }
        x.store(0, 9);
        due.is("35: from the last", x.from(0), 1);
        due.is("35: as it was then", x.count(2), 5);
        x.store(0, 9);
        x.from(0);
        due.is("35: as often as one likes", x.count(2), 5);
    }

    private static void imagesKeepAllButFour() {
        LongYear x = Lumps.full();
        long before = x.digest();
        x.image(0);
        x.year(2);
        x.from(0);
        due.is("35: all of it", x.digest(), before);
        x.clear();
        Due.type(x, "ab");
        x.chance(0, 0);
        x.type(-1);
        x.from(0);
        due.is("35: but THE TEXT", x.count(13), 2);
        due.is("35: but THE FRACTION", x.part(0) * 10 + x.part(1), 11);
        due.is("35: but STATUS", x.status(0), 1);
        due.is("35: but the other IMAGE", x.from(1), 1);
        due.is("35: which is as it was", x.count(1), 8);
    }

    private static void imageKeepsWhatMayBeUndone() {
        for (int years = 0; years <= 8; years++) {
            LongYear x = Due.told("year 70;store 0 500;family 0 20 9;job 0 3;"), y =
                Due.told("year 70;store 0 500;family 0 20 9;job 0 3;");
            for (int i = 0; i < years; i++) {
                x.pass(1);
                y.pass(1);
            }
            x.image(0);
            x.pass(4);
            x.undo();
            x.from(0);
            due.is("34: what may be undone they keep", x.count(12), Math.min(6, years));
            for (int i = Math.min(6, years); i > 0; i--) {
                due.is("35: undone", x.undo() + y.undo(), 2);
                due.is("35: as if no IMAGE had been", x.digest(), y.digest());
            }
            due.is("35: no further", x.undo(), NO);
        }
    }

    private static void imageOutlastsAll() {
        LongYear x = Lumps.rich();
        x.image(1);
        long kept = x.digest();
        x.undo();
        x.from(1);
        due.is("35: behind undo", x.digest(), kept);
        for (int what = 0; what < 3; what++) x.none(what);
        x.from(1);
        due.is("35: behind none", x.digest(), kept);
        x.read();
        x.from(1);
        due.is("35: behind read", x.digest(), kept);
        x.year(70);
        x.from(1);
        due.is("35: behind year", x.digest(), kept);
        x.from(0);
        x.from(1);
        due.is("35: behind the other one", x.digest(), kept);
        x.job(0, 4);
        x.rate(50);
        x.family(0, 20, 9);
        x.from(1);
        due.is("35: a FAMILY that came since is gone", x.count(6), 3);
        due.is("35: JOBS and the RATE, too", x.digest(), kept);
    }

    /** Nothing of what stands there in the meantime is left, number by number. */
    private static void fromAmongOtherThings() {
        LongYear x = Lumps.rich();
        x.image(1);
        long kept = x.digest();
        int net = x.net(0), liars = x.liars(0), letter = x.toldOn(1, 3, 2);
        x.year(50);
        for (int f = 0; f < 6; f++) x.family(3, 11, 1);
        for (int d = 0; d < 8; d++) x.debt(5, 4, 321);
        for (int r = 0; r < 10; r++) x.report(77, 5, 7);
        for (int w = 0; w < 4; w++) x.word(19, 18, 17, 16, 15, 14);
        x.pass(20);
        x.from(1);
        due.is("35: KINDS, DEBTS, REPORTS, WORDS are as they were", x.digest(), kept);
        due.is("35: NET", x.net(0), net);
        due.is("35: LIARS", x.liars(0), liars);
        due.is("35: a letter", x.toldOn(1, 3, 2), letter);
        // FAMILY 0 are KEEPERS, FAMILY 1 SINGERS, FAMILY 2 SLEEPERS of 20 MOUTHS at most
        due.is("35: who eat as their KIND", x.eats(0, 0) - x.about(0, 1), 0);
        due.is("35: who eat half", x.eats(2, 0), (x.about(2, 1) + 1) / 2);
    }

    private static void fromOneToTheOther() {
        LongYear x = new LongYear();
        x.store(0, 10);
        x.image(0);
        x.from(0);
        x.store(0, 20);
        x.image(1);
        x.from(0);
        x.image(1);
        due.is("35: IMAGE 1 is what IMAGE 0 was", x.from(1), 1);
        due.is("35: 10", x.count(2), 10);
    }

    private static void eachRefusalIsCounted() {
        LongYear x = Lumps.full();
        for (int i = 1; i <= 20; i++) {
            x.count(99);
            due.is("36: BAD", x.status(0), i);
            due.is("36: NO", x.status(1), 2 * (i - 1));
            due.is("36: FULL", x.status(2), 3 * (i - 1));
            x.year(2);
            x.undo();
            x.chance(60, 5);
            x.from(1);
            x.family(0, 1, 1);
            x.debt(0, 1, 1);
            x.word(1, 1, 1, 1, 1, 1);
        }
        due.is("36: a full object stays full", x.digest(), Lumps.full().digest());
    }

    private static void statusOfAnother() {
        LongYear x = new LongYear();
        int asked = 0;
        for (int what : new int[] {-1, 3, 4, Integer.MIN_VALUE, Integer.MAX_VALUE}) {
            due.is("36: another what", x.status(what), -1);
            due.is("36: counts as BAD", x.status(0), ++asked);
        }
        due.is("36: as nothing else", x.status(1) + x.status(2), 0);
    }

    /** Each count is a number of its own. */
    private static void eachCount() {
        LongYear x = Due.told("year 69;store 0 1234;store 1 567;store 2 89;store 3 3;family 0 20 9;family 3 20 9;");
        for (int i = 0; i < 3; i++) x.debt(0, 1, 5);
        for (int i = 0; i < 5; i++) x.report(0, 1, 5);
        x.word(1, 1, 1, 1, 1, 1);
        x.clear();
        Due.type(x, "1234567");
        int[] first = {69, 0, 1234, 567, 89, 3, 2, 3, 5, 1, 0, 0, 0, 7};
        for (int what = 0; what <= 13; what++) due.is("37: count " + what, x.count(what), first[what]);
        x.pass(2);
        // GRAIN less 41, 1193, 1074; less 41, 1033, 930. SEED 567, 497, 435. GAS for 2, then for 1; 1 is COLD
        int[] then = {69, 2, 930, 435, 89, 0, 2, 3, 5, 1, 0, 1, 2, 7};
        for (int what = 0; what <= 13; what++) due.is("37: behind 2 YEARS: count " + what, x.count(what), then[what]);
        x.store(0, 0);
        x.pass(1);
        // FARMERS 20, MAKERS 19 and 1
        due.is("37: WANTED", x.count(10), 40);
        due.is("37: COLDS", x.count(11), 3);
        due.is("37: count 14", x.count(14), BAD);
        due.is("37: count -1", x.count(-1), BAD);
    }

    private static void countsAreFullAtMost() {
        LongYear x = Lumps.full();
        int[] most = {9, 8, -1, -1, -1, -1, 6, 8, 10, 4, -1, -1, 6, 150};
        for (int what = 0; what <= 13; what++) if (most[what] >= 0) due.is("37: count " + what, x.count(what), most[what]);
        for (int what = 2; what <= 5; what++) due.holds("37: count " + what, x.count(what) > 0 && x.count(what) <= 9999);
        // one DUSK without GRAIN, with GAS dug for three: 20, 10, 18, 18, 16 and 15 are wanted
        due.is("37: WANTED", x.count(10), 97);
        due.is("37: COLDS", x.count(11), 3);
    }

    private static long digestOf(long... all) {
        long h = 827;
        for (long v : all) h = 31 * h + v;
        return h;
    }

    private static void digestOfANewObject() {
        due.is("38: h = 827 and so on", new LongYear().digest(),
            digestOf(10, 0, 0, 0, 0, 0, 0, 0, 0, 0, 0, 0, 0, 0, 0, 0, 1));
    }

    private static void digestHasEachOfThem() {
        LongYear x = Lumps.full();
        long last = x.digest();
        Twins.Call[] changes = {y -> y.job(5, 3), y -> y.rate(49), y -> y.store(0, 1), y -> y.store(1, 1),
            y -> y.store(2, 1), y -> y.store(3, 1), y -> y.chance(0, 0), y -> y.none(2), y -> y.word(0, 0, 0, 0, 0, 1),
            y -> y.none(1), y -> y.report(0, 0, 1), y -> y.none(0), y -> y.debt(0, 1, 1), y -> y.clear(), y -> y.undo(),
            y -> y.year(9)};
        for (int i = 0; i < changes.length; i++) {
            changes[i].on(x);
            due.holds("38: it changes by change " + i, x.digest() != last);
            last = x.digest();
        }
        x.image(0);
        x.type(-1);
        due.is("38: IMAGES and STATUS are not in it", x.digest(), last);
    }

    /** Far beyond what a long holds, it wraps around. */
    private static void digestOfAFullObject() {
        LongYear x = new LongYear();
        x.year(70);
        Lumps.stores(x, 9999, 9998, 9997, 9996);
        for (int f = 0; f < 6; f++) x.family(4, 20, 9);
        for (int f = 0; f < 6; f++) x.job(f, 4);
        x.rate(50);
        for (int d = 0; d < 8; d++) x.debt(5, 4, 999);
        for (int r = 0; r < 10; r++) x.report(99, 5, 9999);
        for (int w = 0; w < 4; w++) x.word(25, 25, 25, 25, 25, 25);
        for (int c = 0; c < 150; c++) x.type(127);
        long h = digestOf(70, 0, 9999, 9998, 9997, 9996, 6, 8, 10, 4, 0, 0, 0, 150);
        for (int f = 0; f < 6; f++) h = on(h, 4, 20, 9, 4);
        h = on(h, 50);
        for (int d = 0; d < 8; d++) h = on(h, 5, 4, 999);
        for (int r = 0; r < 10; r++) h = on(h, 99, 5, 9999);
        for (int w = 0; w < 4; w++) h = on(h, 25, 25, 25, 25, 25, 25);
        due.is("38: all that there can be", x.digest(), on(h, 0, 1));
        due.is("36: nothing was refused", x.status(0) + x.status(2), 0);
        due.is("19: a ninth", x.debt(5, 4, 999), FULL);
    }

    private static long on(long start, long... all) {
        long h = start;
        for (long v : all) h = 31 * h + v;
        return h;
    }
}

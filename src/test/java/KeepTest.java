/** Promises 33 to 38: the fraction, images, status, counts, the digest. */
public final class KeepTest {
    private static final Due due = new Due("KeepTest");
    private static final int BAD = LongYear.BAD, NO = LongYear.NO;

    public static void main(String[] args) {
        part();
        imageRefused();
        imageKeepsAll();
        imageLeavesOut();
        imageKeepsWhatMayBeUndone();
        imagesAreTheirOwn();
        status();
        statusOfOthersTold();
        count();
        digest();
        due.end();
    }

    private static void part() {
        LongYear x = new LongYear();
        due.is("33: above", x.part(0), 0);
        due.is("33: below", x.part(1), 1);
        due.is("33: what", x.part(2), BAD);
        due.is("33: what", x.part(-1), BAD);
        due.is("33: refused as bad", x.status(0), 2);
        x.chance(1, 1);
        due.is("33: above", x.part(0), 1);
        due.is("33: below", x.part(1), 1);
    }

    private static void imageRefused() {
        LongYear x = new LongYear();
        due.is("34: no such image", x.image(2), BAD);
        due.is("34: no such image", x.image(-1), BAD);
        due.is("35: no such image", x.from(2), BAD);
        due.is("35: no such image", x.from(-1), BAD);
        due.is("35: none was kept", x.from(0), NO);
        due.is("34: kept", x.image(0), 1);
        due.is("35: the other was not", x.from(1), NO);
        due.is("35: kept", x.from(0), 1);
        due.is("36: as bad", x.status(0), 4);
        due.is("36: as no", x.status(1), 2);
    }

    private static LongYear rich() {
        LongYear x = Due.told("year 6;store 0 200;store 1 30;store 2 8;store 3 2;"
            + "family 2 9 5;family 4 8 4;family 1 7 3;job 0 3;job 1 1;job 2 2;debt 0 1 50;debt 2 1 7;");
        x.rate(5);
        x.report(3, 1, 40);
        x.report(3, 2, 41);
        x.word(1, 2, 3, 4, 5, 6);
        x.word(6, 5, 4, 3, 2, 1);
        x.pass(3);
        return x;
    }

    private static void imageKeepsAll() {
        LongYear x = rich();
        long before = x.digest();
        x.image(1);
        due.is("34: changes nothing", x.digest(), before);
        x.pass(9);
        x.store(0, 1);
        x.family(3, 3, 3);
        x.job(0, 4);
        x.rate(9);
        x.none(0);
        x.debt(2, 0, 3);
        x.none(1);
        x.report(9, 0, 9);
        x.none(2);
        x.word(9, 9, 9, 9, 9, 9);
        due.is("35: from it", x.from(1), 1);
        due.is("35: all as it was", x.digest(), before);
        x.year(2);
        due.is("35: from it again", x.from(1), 1);
        due.is("35: all as it was", x.digest(), before);
        x.clear();
        Due.type(x, "year 3;family 0 1 1;");
        x.read();
        x.clear();
        Due.type(x, "year 6;store 0 200;store 1 30;store 2 8;store 3 2;"
            + "family 2 9 5;family 4 8 4;family 1 7 3;job 0 3;job 1 1;job 2 2;debt 0 1 50;debt 2 1 7;");
        due.is("35: also behind a reading", x.from(1), 1);
        due.is("35: all as it was", x.digest(), before);
        due.is("35: it goes on alike", x.pass(10), rich().pass(10));
    }

    private static void imageLeavesOut() {
        LongYear x = rich();
        x.image(0);
        x.clear();
        Due.type(x, "abc");
        x.chance(0, 0);
        x.store(9, 9);
        x.image(1);
        due.is("35: from the first", x.from(0), 1);
        due.is("35: the text stays", x.count(13), 3);
        due.is("35: the fraction stays", x.part(0), 1);
        due.is("35: status stays", x.status(0), 1);
        due.is("35: the other image stays", x.from(1), 1);
        x.year(9);
        due.is("35: an image outlasts a year told", x.from(0), 1);
        due.is("35: as it was", x.count(0), 6);
    }

    private static void imageKeepsWhatMayBeUndone() {
        LongYear x = rich();
        long[] kept = new long[4];
        x.image(0);
        for (int i = 3; i >= 0; i--) {
            kept[i] = x.digest();
            if (i > 0) due.is("34: undone", x.undo(), 1);
        }
        due.is("34: no more", x.undo(), NO);
        x.year(2);
        x.pass(7);
        x.from(0);
        for (int i = 3; i >= 0; i--) {
            due.is("35: as it was " + i, x.digest(), kept[i]);
            if (i > 0) due.is("35: undone", x.undo(), 1);
        }
        due.is("35: no more", x.undo(), NO);
        due.is("35: the image still may", x.from(0) + x.undo(), 2);
        LongYear full = new LongYear();
        full.family(0, 20, 9);
        full.pass(20);
        full.image(0);
        full.pass(4);
        full.from(0);
        due.is("35: six", full.count(12), 6);
        for (int i = 0; i < 6; i++) due.is("35: undone", full.undo(), 1);
        due.is("35: as ahead of YEAR 14", full.count(1), 14);
        // cold in YEARS 0 to 8; the NOON then brings GAS
        due.is("35: mouths as then", full.about(0, 1), 11);
    }

    private static void imagesAreTheirOwn() {
        LongYear x = new LongYear();
        x.store(0, 5);
        x.image(0);
        x.store(0, 6);
        x.image(1);
        x.store(0, 7);
        x.from(0);
        due.is("35: the first", x.count(2), 5);
        x.from(1);
        due.is("35: the second", x.count(2), 6);
        x.image(0);
        x.store(0, 8);
        x.from(0);
        due.is("34: kept anew", x.count(2), 6);
        x.family(0, 4, 4);
        x.from(0);
        due.is("35: she is not there", x.count(6), 0);
    }

    private static void status() {
        LongYear x = new LongYear();
        due.is("36: bad", x.status(0), 0);
        due.is("36: another", x.status(3), -1);
        due.is("36: another", x.status(-1), -1);
        due.is("36: they count as bad", x.status(0), 2);
        x.undo();
        due.is("36: no", x.status(1), 1);
        for (int f = 0; f < 9; f++) x.family(0, 1, 1);
        due.is("36: full", x.status(2), 3);
        due.is("36: each its own", x.status(0), 2);
        due.is("36: each its own", x.status(1), 1);
        x.read();
        due.is("36: a fault is no refusal", x.status(0) + x.status(1) + x.status(2), 6);
    }

    private static void statusOfOthersTold() {
        LongYear x = new LongYear();
        x.plan(9, 0);
        x.held(-5);
        x.net(0);
        due.is("36: others told count as bad", x.status(0), 3);
        x.plan(2, 4);
        x.bears();
        x.want(5);
        due.is("36: other answers do not", x.status(0), 3);
    }

    private static void count() {
        LongYear x = rich();
        // WANTED: none. COLD: 2 GAS for 3 of them; then none for 3, twice
        int[] want = {6, 3, x.count(2), x.count(3), x.count(4), 0, 3, 2, 2, 2, 0, 7, 3, x.count(13)};
        for (int what = 0; what <= 13; what++) due.is("37: count " + what, x.count(what), want[what]);
        due.is("37: what", x.count(14), BAD);
        due.is("37: what", x.count(-1), BAD);
        due.is("37: refused as bad", x.status(0), 2);
        // mouths 9, 8, 7; then 9, 8, 6; then 8, 7, 5, the last a sleeper's: 200, 179, 162, 142, 128, 110, 99
        due.is("37: grain", x.count(2), 99);
        // 34 less 4; 34 less 4; 34 less 4
        due.is("37: seed", x.count(3), 30);
        // a sleeper makes in YEARS 0 and 2
        due.is("37: tools", x.count(4), 10);
    }

    private static void digest() {
        LongYear x = new LongYear();
        long h = 827;
        int[] first = {10, 0, 0, 0, 0, 0, 0, 0, 0, 0, 0, 0, 0, 0, 0, 0, 1};
        for (int v : first) h = 31 * h + v;
        due.is("38: a new object", x.digest(), h);

        LongYear y = Due.told("year 6;store 1 3;store 3 9;family 1 2 3;family 4 5 6;job 1 3;debt 0 1 50;debt 1 0 7;");
        y.rate(8);
        y.report(31, 1, 32);
        y.report(33, 0, 34);
        y.word(1, 2, 3, 4, 5, 6);
        y.word(7, 8, 9, 10, 11, 12);
        y.pass(1);
        y.chance(0, 0);
        int[] then = {6, 1, 0, 5, 0, 7, 2, 2, 2, 2, 6, 0, 1, y.count(13), 1, 2, 2, 0, 4, 5, 6, 3, 8, 0, 1, 50, 1, 0, 7,
            31, 1, 32, 33, 0, 34, 1, 2, 3, 4, 5, 6, 7, 8, 9, 10, 11, 12, 1, 1};
        h = 827;
        for (int v : then) h = 31 * h + v;
        due.is("38: a full one", y.digest(), h);
        due.is("38: changes nothing", y.digest(), h);
        y.status(7);
        due.is("38: status is not in it", y.digest(), h);
    }
}

/** Promises 26 to 32: lots, words told on, apart and meant, two lumps that meet. */
public final class SongsTest {
    private static final Due due = new Due("SongsTest");
    private static final int NONE = LongYear.NONE, BAD = LongYear.BAD, FULL = LongYear.FULL;

    public static void main(String[] args) {
        lots();
        word();
        toldOn();
        apart();
        bears();
        meant();
        meet();
        due.end();
    }

    private static void lots() {
        LongYear x = new LongYear();
        due.is("26: nobody, none", x.lots(0, 0), 0);
        due.is("26: one of nobody", x.lots(0, 1), BAD);
        for (int f = 0; f < 6; f++) x.family(0, 1, 1);
        due.is("26: seed", x.lots(1000000, 0), BAD);
        due.is("26: seed", x.lots(-1, 0), BAD);
        due.is("26: more than all", x.lots(0, 7), BAD);
        due.is("26: fewer than none", x.lots(0, -1), BAD);
        due.is("26: refused as bad", x.status(0), 5);
        drawn(x, 0, new int[] {0, 1, 17, 19, 27, 31, 63});
        drawn(x, 1, new int[] {0, 4, 20, 22, 30, 62, 63});
        drawn(x, 42, new int[] {0, 2, 18, 22, 23, 31, 63});
        drawn(x, 999999, new int[] {0, 16, 24, 56, 58, 59, 63});
        x.year(10);
        for (int f = 0; f < 4; f++) x.family(0, 1, 1);
        drawn(x, 777777, new int[] {0, 4, 12, 14, 15});
        drawn(x, 999999, new int[] {0, 1, 9, 13, 15});
    }

    private static void drawn(LongYear x, int seed, int[] bits) {
        for (int k = 0; k < bits.length; k++) due.is("26: lots(" + seed + ", " + k + ")", x.lots(seed, k), bits[k]);
    }

    private static void word() {
        LongYear x = new LongYear();
        for (int place = 0; place < 6; place++) {
            due.is("27: no letter at " + place, put(x, place, 26, true), BAD);
            due.is("27: no letter at " + place, put(x, place, -1, true), BAD);
        }
        due.is("27: none yet", x.count(9), 0);
        for (int n = 0; n < 4; n++) due.is("27: number", x.word(n, 25, 0, 25, 0, 25), n);
        due.is("27: full", x.word(0, 0, 0, 0, 0, 0), FULL);
        due.is("27: bad ahead of full", x.word(0, 0, 0, 0, 0, 26), BAD);
        due.is("27: four", x.count(9), 4);
        due.is("27: as told", x.toldOn(3, 0, 0), 3);
        due.is("27: as told", x.toldOn(3, 0, 5), 25);
        due.is("27: refused as bad", x.status(0), 13);
        due.is("27: refused as full", x.status(2), 1);
    }

    /** A call with one letter at a place, the others 0: word, or meant. */
    private static int put(LongYear x, int place, int letter, boolean word) {
        int[] l = new int[6];
        l[place] = letter;
        return word ? x.word(l[0], l[1], l[2], l[3], l[4], l[5]) : x.meant(l[0], l[1], l[2], l[3], l[4], l[5]);
    }

    private static void toldOn() {
        LongYear x = new LongYear();
        due.is("28: no words", x.toldOn(0, 0, 0), BAD);
        x.word(0, 25, 0, 25, 0, 25);
        due.is("28: not there", x.toldOn(1, 0, 0), BAD);
        due.is("28: not there", x.toldOn(-1, 0, 0), BAD);
        due.is("28: too many tellers", x.toldOn(0, 31, 0), BAD);
        due.is("28: too few tellers", x.toldOn(0, -1, 0), BAD);
        due.is("28: no such place", x.toldOn(0, 0, 6), BAD);
        due.is("28: no such place", x.toldOn(0, 0, -1), BAD);
        int[] none = {0, 25, 0, 25, 0, 25}, five = {0, 0, 25, 0, 25, 0}, six = {25, 0, 25, 0, 25, 0};
        int[] thirty = {21, 4, 21, 4, 21, 4}, twelve = {24, 1, 24, 1, 24, 0};
        twelve[5] = 1;
        for (int place = 0; place < 6; place++) {
            due.is("28: untold", x.toldOn(0, 0, place), none[place]);
            due.is("28: told by five", x.toldOn(0, 5, place), five[place]);
            due.is("28: told by six", x.toldOn(0, 6, place), six[place]);
            due.is("28: told by twelve", x.toldOn(0, 12, place), twelve[place]);
            due.is("28: told by thirty", x.toldOn(0, 30, place), thirty[place]);
        }
        due.is("28: the word stays", x.toldOn(0, 0, 1), 25);
    }

    private static void apart() {
        LongYear x = new LongYear();
        due.is("29: no words", x.apart(0, 0), BAD);
        x.word(1, 2, 3, 4, 5, 6);
        x.word(1, 2, 0, 4, 5, 0);
        x.word(6, 5, 4, 3, 2, 1);
        due.is("29: itself", x.apart(2, 2), 0);
        due.is("29: two", x.apart(0, 1), 2);
        due.is("29: the other way", x.apart(1, 0), 2);
        due.is("29: all", x.apart(0, 2), 6);
        due.is("29: not there", x.apart(3, 0), BAD);
        due.is("29: not there", x.apart(0, 3), BAD);
        due.is("29: not there", x.apart(-1, 0), BAD);
        due.is("29: not there", x.apart(0, -1), BAD);
    }

    private static void bears() {
        int[] borne = {0, 0, 0, 1, 1, 2, 2};
        for (int apart = 0; apart <= 6; apart++) {
            LongYear x = new LongYear();
            due.is("30: no words", x.bears(), NONE);
            x.word(0, 0, 0, 0, 0, 0);
            due.is("30: one word", x.bears(), NONE);
            x.word(apart > 0 ? 1 : 0, apart > 1 ? 1 : 0, apart > 2 ? 1 : 0, apart > 3 ? 1 : 0, apart > 4 ? 1 : 0,
                apart > 5 ? 1 : 0);
            due.is("30: " + apart + " apart", x.bears(), borne[apart]);
            x.word(9, 9, 9, 9, 9, 9);
            due.is("30: the fewest apart", x.bears(), borne[apart]);
            due.is("30: none is no refusal", x.status(0), 0);
        }
        LongYear last = new LongYear();
        last.word(0, 0, 0, 0, 0, 0);
        last.word(1, 1, 1, 1, 1, 1);
        last.word(2, 2, 2, 2, 2, 2);
        due.is("30: all far", last.bears(), 2);
        last.word(2, 2, 2, 3, 3, 3);
        due.is("30: the last pair", last.bears(), 1);
        last.none(2);
        due.is("30: none again", last.bears(), NONE);
    }

    private static void meant() {
        LongYear x = new LongYear();
        due.is("31: no words", x.meant(0, 0, 0, 0, 0, 0), NONE);
        for (int place = 0; place < 6; place++) {
            due.is("31: no letter at " + place, put(x, place, 26, false), BAD);
            due.is("31: no letter at " + place, put(x, place, -1, false), BAD);
        }
        due.is("31: refused as bad", x.status(0), 12);
        x.word(3, 3, 3, 3, 3, 3);
        x.word(1, 2, 3, 4, 5, 6);
        x.word(1, 2, 3, 4, 5, 6);
        due.is("31: itself, of like ones the least", x.meant(1, 2, 3, 4, 5, 6), 1);
        due.is("31: three slips each", x.meant(3, 2, 3, 3, 5, 0), 0);
        due.is("31: nearer", x.meant(1, 2, 3, 3, 5, 3), 1);
        due.is("31: all slips", x.meant(20, 20, 20, 20, 20, 20), 0);
        due.is("31: z is a letter", x.meant(25, 25, 25, 25, 25, 25), 0);
        due.is("31: words stay", x.count(9), 3);
        x.none(2);
        x.word(1, 2, 3, 4, 5, 6);
        x.word(20, 20, 20, 20, 20, 21);
        due.is("31: the last", x.meant(20, 20, 20, 20, 20, 20), 1);
    }

    private static void meet() {
        LongYear x = new LongYear();
        due.is("32: too few years", x.meet(1, 0), BAD);
        due.is("32: too many years", x.meet(71, 0), BAD);
        due.is("32: later than its year", x.meet(7, 7), BAD);
        due.is("32: gone by", x.meet(7, -1), BAD);
        due.is("32: refused as bad", x.status(0), 4);
        // ours in 9, 19, 29, 39, 49
        due.is("32: sevens", x.meet(7, 0), 49);
        due.is("32: at our first", x.meet(7, 2), 9);
        due.is("32: as long as ours", x.meet(10, 9), 9);
        due.is("32: never", x.meet(10, 0), NONE);
        due.is("32: never", x.meet(2, 0), NONE);
        due.is("32: never", x.meet(4, 2), NONE);
        due.is("32: fours", x.meet(4, 3), 19);
        due.is("32: none is no refusal", x.status(0), 4);
        x.pass(9);
        due.is("32: both now", x.meet(10, 0), 0);
        due.is("32: both now", x.meet(70, 0), 0);
        due.is("32: ours now, the other's next", x.meet(3, 1), 10);
        x.pass(1);
        due.is("32: behind a noon", x.meet(10, 9), 9);
        x.year(70);
        // 69 by 70 and 0 by 69: 69 years, and 69 are at once the first of the other
        due.is("32: long years", x.meet(69, 0), 69);
        due.is("32: the latest", x.meet(69, 68), 4829);
        due.is("32: the longest", x.meet(70, 69), 69);
    }
}

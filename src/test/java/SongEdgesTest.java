/** Promises 26 to 32 where the document names an edge: each sentence on its own. */
public final class SongEdgesTest {
    private static final Due due = new Due("SongEdgesTest");
    private static final int NONE = LongYear.NONE, BAD = LongYear.BAD, FULL = LongYear.FULL;

    public static void main(String[] args) {
        lotsOfNoneAndAll();
        lotsOfEachSeed();
        wordOfEachLetter();
        wordsAreFour();
        toldOnByNobody();
        toldOnPlaceByPlace();
        toldOnRoundTheAlphabet();
        toldOnByThirty();
        apartAtItsEdges();
        bearsAtItsEdges();
        meantAtItsEdges();
        meantOfLikeOnesTheLeast();
        meetNow();
        meetAtTheEdgesOfR();
        meetNever();
        meetAtTheLatest();
        due.end();
    }

    private static LongYear families(int n) {
        LongYear x = new LongYear();
        for (int f = 0; f < n; f++) x.family(0, 1, 1);
        return x;
    }

    private static void lotsOfNoneAndAll() {
        for (int n = 0; n <= 6; n++) {
            LongYear x = families(n);
            for (int seed : new int[] {0, 1, 65535, 999999}) {
                due.is("26: none of " + n, x.lots(seed, 0), 0);
                due.is("26: all of " + n, x.lots(seed, n), (1 << n) - 1);
                int bits = 0;
                for (int k = 0; k <= n; k++) {
                    int more = x.lots(seed, k);
                    due.is("26: so many of " + n, Integer.bitCount(more), k);
                    due.is("26: who is drawn stays drawn", more & bits, bits);
                    bits = more;
                }
            }
            due.is("26: none was refused", x.status(0), 0);
            due.is("26: one more than all", x.lots(0, n + 1), BAD);
            due.is("26: fewer than none", x.lots(0, -1), BAD);
            due.is("26: a SEED too much", x.lots(1000000, n), BAD);
            due.is("26: a SEED too little", x.lots(-1, n), BAD);
        }
    }

    /** Worked out apart from the program, by numbers of any length. */
    private static void lotsOfEachSeed() {
        lotsAre(0, 2, 0, 1, 3);
        lotsAre(0, 5, 0, 1, 3, 11, 27, 31);
        lotsAre(1, 4, 0, 4, 6, 14, 15);
        lotsAre(2, 6, 0, 4, 12, 44, 60, 62, 63);
        lotsAre(65535, 6, 0, 16, 17, 49, 53, 55, 63);
        lotsAre(65536, 6, 0, 2, 34, 38, 54, 62, 63);
        lotsAre(123456, 5, 0, 4, 5, 7, 15, 31);
        lotsAre(999998, 6, 0, 4, 12, 14, 30, 31, 63);
        lotsAre(999999, 3, 0, 2, 3, 7);
        lotsAre(999999, 5, 0, 8, 12, 14, 30, 31);
    }

    private static void lotsAre(int seed, int n, int... bits) {
        LongYear x = families(n);
        for (int k = 0; k < bits.length; k++) due.is("26: " + k + " of " + n + " by " + seed, x.lots(seed, k), bits[k]);
    }

    private static void wordOfEachLetter() {
        for (int place = 0; place < 6; place++) {
            for (int letter = -1; letter <= 26; letter++) {
                LongYear x = new LongYear();
                boolean is = letter >= 0 && letter <= 25;
                due.is("27: letter " + letter + " at " + place, wordWith(x, place, letter), is ? 0 : BAD);
                due.is("27: it is a WORD, or is not", x.count(9), is ? 1 : 0);
                if (is) due.is("27: as it was told", x.toldOn(0, 0, place), letter);
                due.is("31: letter " + letter + " at " + place, meantWith(x, place, letter), is ? 0 : BAD);
            }
        }
    }

    private static int[] allOf(int letter, int place, int other) {
        int[] l = {letter, letter, letter, letter, letter, letter};
        l[place] = other;
        return l;
    }

    private static int wordWith(LongYear x, int place, int letter) {
        int[] l = allOf(25, place, letter);
        return x.word(l[0], l[1], l[2], l[3], l[4], l[5]);
    }

    private static int meantWith(LongYear x, int place, int letter) {
        int[] l = allOf(0, place, letter);
        return x.meant(l[0], l[1], l[2], l[3], l[4], l[5]);
    }

    private static void wordsAreFour() {
        LongYear x = new LongYear();
        for (int w = 0; w < 4; w++) due.is("27: its number", x.word(w, w + 1, w + 2, w + 3, w + 4, w + 5), w);
        due.is("27: a fifth", x.word(0, 0, 0, 0, 0, 0), FULL);
        for (int w = 0; w < 4; w++) {
            for (int place = 0; place < 6; place++) due.is("27: each is its own", x.toldOn(w, 0, place), w + place);
        }
        due.is("28: WORD 4", x.toldOn(4, 0, 0), BAD);
        due.is("29: WORD 4", x.apart(4, 0), BAD);
        due.is("29: WORD 4", x.apart(0, 4), BAD);
        due.is("29: WORD 3", x.apart(3, 3), 0);
    }

    private static void toldOnByNobody() {
        LongYear x = new LongYear();
        x.word(0, 25, 1, 24, 2, 23);
        int[] as = {0, 25, 1, 24, 2, 23};
        for (int place = 0; place < 6; place++) due.is("28: by none", x.toldOn(0, 0, place), as[place]);
        due.is("28: fewer than none", x.toldOn(0, -1, 0), BAD);
        due.is("28: place 6", x.toldOn(0, 0, 6), BAD);
        due.is("28: place -1", x.toldOn(0, 0, -1), BAD);
    }

    /** Teller t changes the place t by 6 left over, and no other one. */
    private static void toldOnPlaceByPlace() {
        LongYear x = new LongYear();
        x.word(10, 10, 10, 10, 10, 10);
        int[] letters = {10, 10, 10, 10, 10, 10};
        for (int n = 1; n <= 30; n++) {
            letters[n % 6] += n % 2 == 1 ? 1 : -1;
            for (int place = 0; place < 6; place++) due.is("28: by " + n + " at " + place, x.toldOn(0, n, place), letters[place]);
        }
        due.is("28: by 31", x.toldOn(0, 31, 0), BAD);
    }

    private static void toldOnRoundTheAlphabet() {
        LongYear x = new LongYear();
        x.word(0, 25, 0, 25, 0, 25);
        // places 1, 3, 5 go on, 2, 4, 0 go back
        due.is("28: z: a, by the first", x.toldOn(0, 1, 1), 0);
        due.is("28: a: z, by the second", x.toldOn(0, 2, 2), 25);
        due.is("28: z: a, by the third", x.toldOn(0, 3, 3), 0);
        due.is("28: a: z, by the fourth", x.toldOn(0, 4, 4), 25);
        due.is("28: z: a, by the fifth", x.toldOn(0, 5, 5), 0);
        due.is("28: still a", x.toldOn(0, 5, 0), 0);
        due.is("28: a: z, by the sixth", x.toldOn(0, 6, 0), 25);
        due.is("28: on to b", x.toldOn(0, 7, 1), 1);
        due.is("28: back to y", x.toldOn(0, 8, 2), 24);
        x.word(1, 24, 1, 24, 1, 24);
        due.is("28: y: z", x.toldOn(1, 1, 1), 25);
        due.is("28: then a", x.toldOn(1, 7, 1), 0);
        due.is("28: b: a", x.toldOn(1, 2, 2), 0);
        due.is("28: then z", x.toldOn(1, 8, 2), 25);
    }

    /** Five each place: on at 1, 3, 5, back at 0, 2, 4. */
    private static void toldOnByThirty() {
        for (int letter = 0; letter <= 25; letter++) {
            LongYear x = new LongYear();
            x.word(letter, letter, letter, letter, letter, letter);
            for (int place = 0; place < 6; place++) {
                due.is("28: thirty tell " + letter, x.toldOn(0, 30, place), (letter + (place % 2 == 1 ? 5 : 21)) % 26);
            }
        }
    }

    /** A word that differs at so many places from 0 0 0 0 0 0, from the last on. */
    private static void addDiffering(LongYear x, int places, int by) {
        int[] l = new int[6];
        for (int i = 0; i < places; i++) l[5 - i] = by;
        x.word(l[0], l[1], l[2], l[3], l[4], l[5]);
    }

    private static void apartAtItsEdges() {
        for (int places = 0; places <= 6; places++) {
            LongYear x = new LongYear();
            addDiffering(x, 0, 0);
            due.is("29: no second WORD", x.apart(0, 1), BAD);
            addDiffering(x, places, 1);
            due.is("29: at " + places, x.apart(0, 1), places);
            due.is("29: the other way", x.apart(1, 0), places);
            due.is("29: from itself", x.apart(1, 1), 0);
            due.is("29: below the first", x.apart(-1, 1), BAD);
        }
        LongYear far = new LongYear();
        far.word(0, 0, 0, 0, 0, 0);
        far.word(25, 0, 0, 0, 0, 0);
        due.is("29: a and z are at one place", far.apart(0, 1), 1);
    }

    private static void bearsAtItsEdges() {
        int[] borne = {0, 0, 0, 1, 1, 2, 2};
        for (int places = 0; places <= 6; places++) {
            LongYear x = new LongYear();
            due.is("30: none of no WORDS", x.bears(), NONE);
            addDiffering(x, 0, 0);
            due.is("30: none of one WORD", x.bears(), NONE);
            addDiffering(x, places, 1);
            due.is("30: two WORDS " + places + " apart", x.bears(), borne[places]);
            x.word(9, 9, 9, 9, 9, 9);
            x.word(8, 8, 8, 8, 8, 8);
            due.is("30: of all pairs the fewest", x.bears(), borne[places]);
            x.none(2);
            due.is("30: none again", x.bears(), NONE);
            due.is("30: none is no refusal", x.status(0), 0);
        }
    }

    private static void meantAtItsEdges() {
        LongYear x = new LongYear();
        due.is("31: no WORDS", x.meant(0, 0, 0, 0, 0, 0), NONE);
        due.is("31: a letter is BAD ahead of none", x.meant(0, 0, 26, 0, 0, 0), BAD);
        x.word(5, 5, 5, 5, 5, 5);
        due.is("31: one WORD, however far", x.meant(25, 25, 25, 25, 25, 25), 0);
        due.is("31: however far", x.meant(0, 0, 0, 0, 0, 0), 0);
        x.word(9, 9, 9, 9, 9, 9);
        due.is("31: one letter of it", x.meant(0, 0, 0, 0, 0, 9), 1);
        due.is("31: itself", x.meant(9, 9, 9, 9, 9, 9), 1);
        x.none(2);
        due.is("31: none now", x.meant(9, 9, 9, 9, 9, 9), NONE);
        due.is("31: none is no refusal", x.status(0), 1);
    }

    private static void meantOfLikeOnesTheLeast() {
        LongYear x = new LongYear();
        for (int w = 0; w < 4; w++) x.word(w, w, w, w, w, w);
        due.is("31: none of them", x.meant(9, 9, 9, 9, 9, 9), 0);
        due.is("31: two and two", x.meant(2, 2, 1, 1, 9, 9), 1);
        due.is("31: three and three", x.meant(3, 3, 3, 2, 2, 2), 2);
        due.is("31: the last by one", x.meant(3, 3, 3, 3, 2, 2), 3);
        due.is("31: one of each", x.meant(3, 2, 1, 0, 9, 9), 0);
        x.none(2);
        for (int w = 0; w < 4; w++) x.word(7, 7, 7, 7, 7, 7);
        due.is("31: four alike", x.meant(7, 7, 7, 7, 7, 7), 0);
        for (int place = 0; place < 6; place++) {
            LongYear y = new LongYear();
            y.word(1, 1, 1, 1, 1, 1);
            y.word(2, 2, 2, 2, 2, 2);
            due.is("31: nearer at place " + place, meantWith(y, place, 2), 1);
        }
    }

    private static LongYear inYear(int span, int year) {
        LongYear x = new LongYear();
        x.year(span);
        for (int left = year; left > 0; left -= 20) x.pass(Math.min(20, left));
        return x;
    }

    private static void meetNow() {
        for (int span : new int[] {2, 3, 10, 70}) {
            LongYear x = inYear(span, span - 1);
            for (int z = 2; z <= 70; z++) due.is("32: 0 on, of " + span + " and " + z, x.meet(z, 0), 0);
            x.pass(1);
            due.is("32: not 0 in a DUSK", x.meet(span, span - 1), span - 1);
        }
    }

    private static void meetAtTheEdgesOfR() {
        LongYear x = new LongYear();
        due.is("32: Z less 1", x.meet(2, 1), 9);
        due.is("32: Z", x.meet(2, 2), BAD);
        due.is("32: less than 0", x.meet(2, -1), BAD);
        due.is("32: Z less 1", x.meet(70, 69), 69);
        due.is("32: Z", x.meet(70, 70), BAD);
        due.is("32: never, ours being in 9, 19, 29 and so on", x.meet(70, 0), NONE);
        due.is("32: too short a long year", x.meet(1, 0), BAD);
        due.is("32: too long a one", x.meet(71, 0), BAD);
        due.is("32: five were refused", x.status(0), 5);
    }

    /** Every Y and Z, every r: by looking YEAR by YEAR; never, if not within Y times Z. */
    private static void meetNever() {
        for (int span : new int[] {2, 6, 7, 10, 69, 70}) {
            LongYear x = inYear(span, 1);
            int asked = 0;
            for (int z = 2; z <= 70; z += z < 8 ? 1 : 31) {
                for (int r = 0; r < z; r += z < 8 ? 1 : 7) {
                    due.is("32: " + span + " and " + z + " in " + r, x.meet(z, r), looked(span, 1, z, r));
                    asked++;
                }
            }
            due.holds("32: within an object's calls", asked < 500);
        }
    }

    private static int looked(int span, int year, int z, int r) {
        for (int t = 0; t < 70 * 70; t++) {
            if ((year + t) % span == span - 1 && t % z == r) return t;
        }
        return NONE;
    }

    private static void meetAtTheLatest() {
        // 69 and 70 YEARS have 4830 together; ours is in 69, 139 and so on, the other's in 68, 137
        due.is("32: at the latest", inYear(70, 0).meet(69, 68), 4829);
        due.is("32: the other way", inYear(69, 0).meet(70, 69), 4829);
        due.is("32: a YEAR on", inYear(70, 1).meet(69, 67), 4828);
        due.is("32: never, both being even", inYear(70, 0).meet(2, 0), NONE);
        due.is("32: at once ours", inYear(70, 0).meet(2, 1), 69);
    }
}

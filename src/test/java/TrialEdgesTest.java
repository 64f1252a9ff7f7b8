/** Promises 14 to 18 where the document names an edge: each sentence on its own. */
public final class TrialEdgesTest {
    private static final Due due = new Due("TrialEdgesTest");
    private static final int NONE = LongYear.NONE, BAD = LongYear.BAD, NO = LongYear.NO;
    private static final int REST = 0, TEACH = 1, MAKE = 2, TEND = 3, DIG = 4;

    public static void main(String[] args) {
        planOfNoYears();
        planOfFiveYears();
        planPlaces();
        planNoneIsAhead();
        planJustEnough();
        planFindsEachJob();
        planOfLikeOnesTheFirst();
        planOverWholeNoons();
        wantOfNoYears();
        wantInTheLastYear();
        wantAtNoon();
        heldAtItsEdges();
        heldIsTheLeast();
        heldUpTo999();
        heldOfManyYears();
        chanceOfNoYears();
        chanceOfSixtyYears();
        chanceOfEightNoons();
        chanceByAllRows();
        chanceOfNoBadOnes();
        chanceHalvesAndCuts();
        chanceOfWantInDusk();
        fractionInLowestTerms();
        teachersOfNoYears();
        teachersAtTheLastMemory();
        teachersOfSixtyYears();
        teachersOfLikeOnesTheLeast();
        due.end();
    }

    private static void planOfNoYears() {
        LongYear x = new LongYear();
        due.is("14: no GRAIN", x.plan(0, NONE), 0);
        x.store(0, 9999);
        due.is("14: what is there", x.plan(0, NONE), 9999);
        due.is("14: of no YEARS not one JOB", x.plan(0, 0), -5);
        due.is("14: too few", x.plan(-1, NONE), -10);
        LongYear hungry = Due.told("year 2;family 0 20 0;");
        due.is("14: no YEAR, no WANT", hungry.plan(0, NONE), 0);
        due.is("14: a row of none is one", hungry.plan(0, 0), -5);
    }

    private static void planOfFiveYears() {
        LongYear x = new LongYear();
        x.store(0, 100);
        // less a tenth: 90, 81, 73, 66, 60
        int[] left = {100, 90, 81, 73, 66, 60};
        for (int m = 0; m <= 5; m++) due.is("14: " + m + " YEARS", x.plan(m, NONE), left[m]);
        due.is("14: six", x.plan(6, NONE), -10);
        due.is("14: one was refused", x.status(0), 1);
    }

    private static void planPlaces() {
        LongYear x = new LongYear();
        for (int m = 1; m <= 5; m++) {
            due.is("14: the first JOB", x.plan(m, 0), REST);
            due.is("14: the last JOB", x.plan(m, m - 1), REST);
            due.is("14: not so many", x.plan(m, m), -5);
            due.is("14: not nearly so many", x.plan(m, Integer.MAX_VALUE), -5);
        }
        due.is("14: NONE is the least place", x.plan(5, NONE), 0);
        due.is("14: none below it", x.plan(5, NONE - 1), -10);
        due.is("14: no place", x.plan(5, Integer.MIN_VALUE), -10);
    }

    private static void planNoneIsAhead() {
        LongYear x = Due.told("year 9;family 0 20 0;");
        for (int m = 1; m <= 5; m++) {
            for (int i : new int[] {NONE, 0, m - 1, m, m + 1, Integer.MAX_VALUE}) {
                due.is("14: none of " + m + " at " + i, x.plan(m, i), NONE);
            }
            due.is("14: BAD is ahead", x.plan(m, -2), -10);
        }
        due.is("14: BAD is ahead", x.plan(6, 0), -10);
        due.is("14: STATUS by those alone", x.status(0), 6);
    }

    /** Ten MOUTHS: 61; 51, 46; 36, 33; 23, 21; 11, 10; 0. */
    private static void planJustEnough() {
        int[] least = {0, 10, 21, 33, 46, 61};
        for (int m = 1; m <= 5; m++) {
            LongYear x = Due.told("year 9;store 3 9;family 0 10 0;");
            x.store(0, least[m]);
            due.is("14: enough for " + m, x.plan(m, NONE), 0);
            due.is("14: its last JOB", x.plan(m, m - 1), REST);
            x.store(0, least[m] - 1);
            due.is("14: one too few for " + m, x.plan(m, NONE), NONE);
        }
    }

    /** A DUSK, then the NOON. */
    private static void plannedFirst(String lump, int grain, int job) {
        LongYear x = Due.told("year 2;store 0 200;" + lump);
        due.is("14: GRAIN by JOB " + job, x.plan(2, NONE), grain);
        due.is("14: JOB " + job, x.plan(2, 0), job);
        due.is("14: at NOON the first of all alike", x.plan(2, 1), REST);
    }

    private static void planFindsEachJob() {
        // 200 less 20, less a tenth: 162; 100 less 20 more
        plannedFirst("store 1 99;store 2 99;store 3 9;family 0 20 9;", 242, REST);
        // 200 less 21: 179, 162; 21 know: 105 less 21 more
        plannedFirst("store 1 99;store 2 99;store 3 9;family 0 20 0;family 4 1 9;", 246, TEACH);
        // 162; 3 FIELDS: 15 less 20
        plannedFirst("store 1 99;store 3 9;family 0 20 9;", 157, MAKE);
        // 162; 4 FIELDS: 20 less 20
        plannedFirst("store 2 99;store 3 9;family 2 20 9;", 162, TEND);
        // 162; 20 MOUTHS, not 19
        plannedFirst("store 1 99;store 2 99;family 0 20 9;", 242, DIG);
    }

    private static void planOfLikeOnesTheFirst() {
        LongYear x = Due.told("year 4;store 0 300;store 1 99;store 3 9;family 3 20 9;");
        // MAKE twice in three DUSKS gives 18 FIELDS, ever 20 by MOUTHS
        due.is("14: all three", jobsOfThree(x), 222);
        LongYear once = Due.told("year 4;store 0 300;store 1 99;store 3 9;family 3 9 9;");
        // by MOUTHS one MAKE is enough: the later, the further ahead is the row
        due.is("14: the latest MAKE is the first row", jobsOfThree(once), 2);
        LongYear both = Due.told("year 4;store 0 300;store 1 3;store 3 9;family 3 9 9;");
        // 3 SEED and two TENDED are 5 FIELDS, for which one MAKE is enough
        due.is("14: of three rows the first", jobsOfThree(both), 233);
    }

    private static int jobsOfThree(LongYear x) {
        return x.plan(4, 0) * 100 + x.plan(4, 1) * 10 + x.plan(4, 2);
    }

    /** From a NOON on: NOON, DUSK, NOON, DUSK, NOON, each NOON with all its FIELDS. */
    private static void planOverWholeNoons() {
        LongYear x = Lumps.shortYears(true);
        x.family(4, 10, 9);
        Lumps.stores(x, 0, 99, 99, 0);
        // 50 less 10: 40; 30, 27; 67; 57, 52; 92
        int[] left = {0, 40, 27, 67, 52, 92};
        for (int m = 0; m <= 5; m++) due.is("14: " + m + " YEARS from a NOON", x.plan(m, NONE), left[m]);
    }

    private static void wantOfNoYears() {
        LongYear x = Due.told("year 9;family 0 20 0;");
        due.is("15: no YEARS, no WANT", x.want(0), NONE);
        due.is("15: 0 on", x.want(1), 0);
        due.is("15: 0 on", x.want(200), 0);
        due.is("15: too few", x.want(-1), BAD);
        due.is("15: too many", x.want(201), BAD);
    }

    /** Harvests feed them till the TOOLS are worn: the last of 200 YEARS is the first with WANT. */
    private static void wantInTheLastYear() {
        LongYear x = Due.told("year 5;store 0 20;store 1 99;store 2 39;store 3 99;family 4 3 9;");
        due.is("15: within 199 none", x.want(199), NONE);
        due.is("15: within 200 the last", x.want(200), 199);
        int lack = x.pass(19);
        for (int i = 0; i < 9; i++) lack += x.pass(20);
        due.is("15: none in 199 YEARS", lack, 0);
        due.is("15: now", x.want(1), 0);
        due.holds("15: and so it is", x.pass(1) > 0);
    }

    private static void wantAtNoon() {
        LongYear x = Due.told("year 3;store 0 9;store 3 9;family 1 6 0;");
        // 3 each DUSK: 6, 3; at NOON 6
        due.is("15: none in DUSK", x.want(2), NONE);
        due.is("15: at NOON", x.want(3), 2);
        x.store(0, 12);
        due.is("15: just enough", x.want(3), NONE);
        due.is("15: then no more", x.want(4), 3);
    }

    private static void heldAtItsEdges() {
        LongYear x = Due.told("year 70;store 0 9999;store 3 99;family 0 10 0;");
        int[] least = {0, 10, 21, 33, 46, 61};
        for (int n = 0; n <= 5; n++) due.is("16: " + n + " YEARS, whatever is there", x.held(n), least[n]);
        due.is("16: too few", x.held(-1), -10);
        due.is("16: too many", x.held(201), -10);
        due.is("16: the most", new LongYear().held(200), 0);
        x.store(0, 0);
        for (int n = 0; n <= 5; n++) due.is("16: " + n + " YEARS, nothing being there", x.held(n), least[n]);
    }

    /** What is held is enough, and one less is not; 999 is the most. */
    private static void heldIsTheLeast() {
        int most = 0;
        for (int mouths = 1; mouths <= 20; mouths++) {
            LongYear x = new LongYear();
            x.year(70);
            x.family(0, mouths, 0);
            x.store(3, 9999);
            for (int n = 1; n <= 40; n++) {
                int least = x.held(n);
                x.store(0, least == NONE ? 999 : least);
                due.is("16: with it", x.want(n) == NONE ? 1 : 0, least == NONE ? 0 : 1);
                if (least < 1) continue;
                most = Math.max(most, least);
                x.store(0, least - 1);
                due.holds("16: with one less", x.want(n) != NONE);
            }
        }
        due.holds("16: up to 999", most > 900 && most <= 999);
    }

    /** GAS for some YEARS, then they are fewer; found by trying, and shown by what is wanted. */
    private static void heldUpTo999() {
        LongYear x = Due.told("year 70;store 3 10;family 0 17 0;");
        due.is("16: 999", x.held(24), 999);
        x.store(0, 999);
        due.is("16: is enough", x.want(24), NONE);
        x.store(0, 998);
        due.is("16: and one less is not", x.want(24), 23);
        LongYear y = Due.told("year 70;store 3 13;family 0 14 0;family 0 14 0;");
        due.is("16: NONE", y.held(25), NONE);
        y.store(0, 1000);
        due.is("16: 1000 were enough", y.want(25), NONE);
        y.store(0, 999);
        due.is("16: 999 are not", y.want(25), 24);
    }

    private static void heldOfManyYears() {
        LongYear x = Due.told("year 2;store 1 99;store 2 20;store 3 99;family 3 1 9;");
        due.is("16: 199 YEARS", x.held(199), 2);
        due.is("16: 200 YEARS", x.held(200), 13);
        x.store(0, 13);
        due.is("16: so it is", x.want(200), NONE);
        x.store(0, 12);
        due.is("16: and one less is short in the last", x.want(200), 199);
    }

    private static void asked(LongYear x, int n, int p, long above, long below) {
        due.is("17: chance(" + n + ", " + p + ")", x.chance(n, p), 1);
        due.is("17: above of " + n + ", " + p, x.part(0), above);
        due.is("17: below of " + n + ", " + p, x.part(1), below);
    }

    private static void chanceOfNoYears() {
        LongYear x = Due.told("year 2;family 0 20 0;");
        for (int p = 0; p <= 10; p++) asked(x, 0, p, 1, 1);
        asked(x, 1, 5, 0, 1);
        due.is("17: too few", x.chance(-1, 5), BAD);
        due.is("17: THE FRACTION stays", x.part(0) * 10 + x.part(1), 1);
    }

    /** Of 7 YEARS: NOONS are the YEARS 6 to 55, eight of them, in 60 YEARS from YEAR 0 on. */
    private static void chanceOfSixtyYears() {
        LongYear x = new LongYear();
        x.year(7);
        asked(x, 60, 10, 1, 1);
        due.is("17: too many YEARS", x.chance(61, 10), BAD);
        x.pass(1);
        asked(x, 60, 10, 1, 1);
        x.pass(1);
        asked(x, 60, 10, 1, 1);
        x.pass(1);
        due.is("17: YEARS 3 to 62 have nine", x.chance(60, 10), NO);
        asked(x, 59, 10, 1, 1);
        x.pass(3);
        asked(x, 56, 10, 1, 1);
        due.is("17: from a NOON on", x.chance(57, 10), NO);
    }

    /** 15 MOUTHS, 75 GRAIN less 15 at NOON: 60, 41, 24, 9 and so on; by half there are 35 less 15, too few for three DUSKS. */
    private static LongYear fifteen() {
        LongYear x = new LongYear();
        x.year(4);
        x.pass(3);
        x.family(0, 15, 9);
        Lumps.stores(x, 0, 9999, 9999, 9);
        return x;
    }

    private static void chanceOfEightNoons() {
        LongYear x = fifteen();
        long way = 1, all = 1;
        for (int noons = 1; noons <= 8; noons++) {
            way *= 7;
            all *= 10;
            asked(x, 4 * noons, 3, way, all);
        }
        due.is("17: eight tens", x.part(1), 100000000);
        due.is("17: nine NOONS", x.chance(33, 3), NO);
        due.is("17: THE FRACTION stays", x.part(0), 5764801);
    }

    /** Each row of good and bad NOONS is played: a bad one by SEED for half of the FIELDS, put right behind it. */
    private static void chanceByAllRows() {
        int apart = 0;
        for (int mouths = 3; mouths <= 9; mouths += 3) {
            for (int grain = 0; grain <= 60; grain += 12) {
                String lump = "year 3;store 0 " + grain + ";store 1 99;store 2 99;store 3 99;family 2 " + mouths + " 3;";
                long[] calm = new long[9];
                for (int row = 0; row < 256; row++) if (isCalm(lump, row)) calm[Integer.bitCount(row)]++;
                LongYear x = Due.told(lump);
                for (int p = 0; p <= 10; p++) {
                    x.chance(26, p);
                    if (x.part(0) * 100000000L != ways(calm, p) * x.part(1)) apart++;
                }
            }
        }
        due.is("17: apart from what all rows tell", apart, 0);
    }

    private static boolean isCalm(String lump, int row) {
        LongYear x = Due.told(lump);
        int noons = 0;
        for (int y = 0; y < 26; y++) {
            boolean bad = y % 3 == 2 && (row >> noons & 1) == 1;
            if (y % 3 == 2) noons++;
            int seed = x.count(3), half = x.fields() / 2;
            if (bad) x.store(1, half);
            if (x.pass(1) > 0) return false;
            if (bad) x.store(1, seed + half);
        }
        return true;
    }

    /** Of 10 ways for each of eight NOONS, how many there are by how many are bad. */
    private static long ways(long[] calm, int p) {
        long sum = 0;
        for (int bad = 0; bad <= 8; bad++) {
            long way = calm[bad];
            for (int i = 0; i < 8; i++) way *= i < bad ? p : 10 - p;
            sum += way;
        }
        return sum;
    }

    private static void chanceOfNoBadOnes() {
        LongYear x = fifteen();
        asked(x, 32, 0, 1, 1);
        asked(x, 32, 10, 0, 1);
        asked(x, 4, 0, 1, 1);
        asked(x, 4, 10, 0, 1);
        asked(x, 4, 1, 9, 10);
        asked(x, 4, 9, 1, 10);
        due.is("17: p too little", x.chance(4, -1), BAD);
        due.is("17: p too much", x.chance(4, 11), BAD);
        due.is("17: THE FRACTION stays", x.part(0) * 100 + x.part(1), 110);
    }

    /** MOUTHS that just eat what half of the FIELDS bring. */
    private static void chanceHalvesAndCuts() {
        for (int fields = 0; fields <= 7; fields++) {
            LongYear x = Lumps.shortYears(true);
            x.family(0, 20, 9);
            Lumps.stores(x, 20 - 5 * (fields / 2), fields, 9, 0);
            asked(x, 1, 10, 1, 1);
            x.store(0, Math.max(0, 19 - 5 * (fields / 2)));
            asked(x, 1, 10, 0, 1);
        }
    }

    private static void chanceOfWantInDusk() {
        LongYear x = Due.told("year 3;store 0 9;store 3 99;family 0 5 9;");
        asked(x, 1, 10, 1, 1);
        // 9 less 5: 4, one too few
        asked(x, 2, 0, 0, 1);
        x.store(0, 10);
        asked(x, 2, 10, 1, 1);
        asked(x, 3, 0, 0, 1);
    }

    private static void fractionInLowestTerms() {
        LongYear x = fifteen();
        int[][] terms = {{0, 1, 1}, {1, 9, 10}, {2, 4, 5}, {3, 7, 10}, {4, 3, 5}, {5, 1, 2}, {6, 2, 5}, {7, 3, 10},
            {8, 1, 5}, {9, 1, 10}, {10, 0, 1}};
        for (int[] t : terms) asked(x, 4, t[0], t[1], t[2]);
        asked(x, 8, 5, 1, 4);
        asked(x, 32, 5, 1, 256);
        asked(x, 32, 8, 1, 390625);
    }

    private static void teachersOfNoYears() {
        due.is("18: nobody", new LongYear().teachers(0), 0);
        due.is("18: nobody in 60 YEARS", new LongYear().teachers(60), 0);
        due.is("18: MEMORY 1 is above 0", Due.told("year 9;family 0 1 1;").teachers(0), 0);
        due.is("18: MEMORY 0 is not", Due.told("year 9;family 0 1 0;").teachers(0), NONE);
        due.is("18: one of two", Due.told("year 9;family 0 1 1;family 4 1 0;").teachers(0), NONE);
        due.is("18: too few", new LongYear().teachers(-1), BAD);
        due.is("18: too many", new LongYear().teachers(61), BAD);
    }

    private static void teachersAtTheLastMemory() {
        LongYear x = Due.told("year 70;family 0 1 5;family 4 1 5;");
        due.is("18: MEMORY 1 behind 4 YEARS", x.teachers(4), 0);
        due.is("18: MEMORY 0 behind 5", x.teachers(5), 2);
        due.is("18: taught by 2 one forgets all", Due.told("year 70;family 0 1 1;family 4 1 2;").teachers(1), NONE);
        due.is("18: taught by 3 one keeps 1", Due.told("year 70;family 0 1 1;family 4 1 3;").teachers(1), 2);
        LongYear noon = Due.told("year 5;family 0 1 1;");
        due.is("18: behind the last DUSK", noon.teachers(4), NONE);
        due.is("18: behind the NOON", noon.teachers(5), 0);
        due.is("18: 9 YEARS later", Due.told("year 70;family 0 1 9;").teachers(9), NONE);
        due.is("18: 8 YEARS later", Due.told("year 70;family 0 1 9;").teachers(8), 0);
    }

    private static void teachersOfSixtyYears() {
        due.is("18: a SINGER forgets nothing", Due.told("year 70;family 4 1 1;").teachers(60), 0);
        LongYear x = Due.told("year 70;family 0 1 1;family 1 1 1;family 2 1 1;family 3 1 1;family 0 1 1;family 4 1 3;");
        due.is("18: the last of six", x.teachers(60), 32);
        LongYear two = Due.told("year 70;family 0 1 1;family 4 1 2;family 4 1 4;");
        due.is("18: of 4 taught 3, less 1", two.teachers(60), 4);
        LongYear sleeper = Due.told("year 70;family 4 1 9;family 1 1 9;");
        due.is("18: the SINGER, not the SLEEPER", sleeper.teachers(60), 1);
    }

    private static void teachersOfLikeOnesTheLeast() {
        LongYear x = Due.told("year 70;family 0 1 1;family 4 1 9;family 4 1 9;family 4 1 8;");
        due.is("18: the least of three", x.teachers(30), 2);
        x.job(1, TEND);
        x.job(2, TEACH);
        due.is("18: whoever TEACHES now", x.teachers(30), 2);
        LongYear first = Due.told("year 70;family 4 1 9;family 0 1 1;family 4 1 9;");
        due.is("18: the first", first.teachers(30), 1);
    }
}

/** Promises 14 to 18: what to do in which year, first want, what must be held, chance, teachers. */
public final class TrialsTest {
    private static final Due due = new Due("TrialsTest");
    private static final int NONE = LongYear.NONE, BAD = LongYear.BAD, NO = LongYear.NO;
    private static final int TEACH = 1, MAKE = 2, TEND = 3, DIG = 4;

    public static void main(String[] args) {
        refusedPlans();
        planOfNobody();
        planForTheNoon();
        planForWarmth();
        planThatWants();
        planOfNoJobsInNoon();
        want();
        held();
        chanceRefused();
        chanceOfBoth();
        chanceOfTwoNoons();
        chanceHalvesCut();
        teachers();
        teachersAlone();
        trialsChangeNothing();
        due.end();
    }

    private static void refusedPlans() {
        LongYear x = new LongYear();
        due.is("14: too many years", x.plan(6, 0), -10);
        due.is("14: fewer than none", x.plan(-1, NONE), -10);
        due.is("14: no such place", x.plan(2, -2), -10);
        due.is("14: refused as bad", x.status(0), 3);
        due.is("14: not so many", x.plan(0, 0), -5);
        due.is("14: not so many", x.plan(2, 2), -5);
        due.is("14: not so many", x.plan(5, Integer.MAX_VALUE), -5);
        due.is("14: which is no refusal", x.status(0), 3);
    }

    private static void planOfNobody() {
        LongYear x = new LongYear();
        x.store(0, 100);
        due.is("14: no years", x.plan(0, NONE), 100);
        due.is("14: a tenth is lost each year", x.plan(3, NONE), 73);
        for (int i = 0; i < 3; i++) due.is("14: the first of like ones", x.plan(3, i), 0);
    }

    /** Two YEARS ahead of a NOON: by tools for six fields and by who knows, 40, 28, 26, 14, 13, then 30 more and 12 less. */
    private static void planForTheNoon() {
        LongYear x = new LongYear();
        x.year(3);
        x.store(0, 40);
        x.store(1, 80);
        x.store(3, 9);
        x.family(0, 6, 1);
        x.family(0, 6, 4);
        due.is("14: no tools: to make them once is enough", x.plan(3, NONE), 31);
        due.is("14: first", x.plan(3, 0), 0);
        due.is("14: then", x.plan(3, 1), MAKE);
        due.is("14: at noon nothing", x.plan(3, 2), 0);
        x.store(2, 2);
        // 4 TOOLS for 12 FIELDS, and 12 who know: that is 30 more
        due.is("14: two tools: make and teach", x.plan(3, NONE), 61);
        due.is("14: of both orders the first", x.plan(3, 0), TEACH);
        due.is("14: then", x.plan(3, 1), MAKE);
        x.store(2, 4);
        due.is("14: tools enough", x.plan(3, NONE), 61);
        due.is("14: to teach is early enough", x.plan(3, 0), 0);
        due.is("14: in the second", x.plan(3, 1), TEACH);
        due.is("14: nothing comes in time", x.plan(2, NONE), 13);
    }

    /** Without GAS mouths are fewer and eat less: nobody digs where that is best. */
    private static void planForWarmth() {
        LongYear x = new LongYear();
        x.store(0, 100);
        x.family(0, 10, 0);
        // 100, 90, 81, less 9: 72, less 7
        due.is("14: cold saves grain", x.plan(2, NONE), 65);
        due.is("14: rest", x.plan(2, 0), 0);
        x.year(2);
        x.store(0, 100);
        x.store(1, 90);
        x.store(2, 90);
        x.family(4, 10, 9);
        // 100, 90, 81; a NOON of 10 FIELDS with GAS, 9 without: 81 and 50 less 10, or 81 and 45 less 9
        due.is("14: warm for the harvest", x.plan(2, NONE), 121);
        due.is("14: dig", x.plan(2, 0), DIG);
        due.is("14: noon", x.plan(2, 1), 0);
    }

    private static void planThatWants() {
        LongYear x = new LongYear();
        x.store(0, 9);
        x.family(0, 10, 0);
        due.is("14: want at once", x.plan(1, NONE), NONE);
        due.is("14: no row", x.plan(1, 0), NONE);
        due.is("14: no row, whatever the place", x.plan(1, 1), NONE);
        due.is("14: no row, whatever the place", x.plan(1, Integer.MAX_VALUE), NONE);
        due.is("14: a place that is none goes ahead", x.plan(1, -2), -10);
        due.is("14: no years, no want", x.plan(0, NONE), 9);
        due.is("14: a row of no years", x.plan(0, 0), -5);
        x.store(0, 10);
        due.is("14: just enough", x.plan(1, NONE), 0);
        due.is("14: a row of one", x.plan(1, 1), -5);
        due.is("14: and no more", x.plan(2, NONE), NONE);
        due.is("14: no row of two", x.plan(2, 2), NONE);
        due.is("14: none is no refusal", x.status(0), 1);
    }

    private static void planOfNoJobsInNoon() {
        LongYear x = new LongYear();
        x.year(2);
        x.pass(1);
        x.family(0, 5, 5);
        x.store(0, 500);
        x.store(1, 500);
        x.store(2, 1);
        // from a NOON on: NOON, DUSK, NOON. FIELDS 3, so that TOOLS are gone; then MAKE 1, FIELDS 3 again
        // 500, 515, 510, 505, less 50: 455, 470, 465
        due.is("14: grain", x.plan(3, NONE), 465);
        due.is("14: noon", x.plan(3, 0), 0);
        due.is("14: make", x.plan(3, 1), MAKE);
        due.is("14: noon", x.plan(3, 2), 0);
    }

    private static void want() {
        LongYear x = new LongYear();
        due.is("15: too many", x.want(201), BAD);
        due.is("15: too few", x.want(-1), BAD);
        due.is("15: nobody wants", x.want(200), NONE);
        x.family(0, 10, 0);
        x.store(3, 100);
        due.is("15: no years", x.want(0), NONE);
        due.is("15: at once", x.want(1), 0);
        x.store(0, 29);
        // 29, 19, 18, 8, then 2 lack
        due.is("15: not in two years", x.want(2), NONE);
        due.is("15: in the third", x.want(3), 2);
        due.is("15: the first of them", x.want(200), 2);
        x.pass(1);
        due.is("15: from now on", x.want(200), 1);
        // a NOON of 4 FIELDS: 20 less 10, and 10 in the next DUSK; with half of them there were none
        due.is("15: by whole harvests", Due.told("year 2;store 0 10;store 1 4;store 2 9;store 3 9;family 4 10 9;")
            .want(3), NONE);
        due.is("15: by jobs as they are", wantsIn(DIG), 8);
        due.is("15: by jobs as they are", wantsIn(0), 24);
    }

    /** Who digs stays warm, has all mouths, and wants sooner. */
    private static int wantsIn(int job) {
        LongYear x = new LongYear();
        x.year(70);
        x.family(0, 10, 0);
        x.store(0, 125);
        x.job(0, job);
        return x.want(200);
    }

    private static void held() {
        LongYear x = new LongYear();
        due.is("16: too many", x.held(201), -10);
        due.is("16: too few", x.held(-1), -10);
        due.is("16: refused as bad", x.status(0), 2);
        due.is("16: nobody", x.held(200), 0);
        x.family(0, 10, 0);
        x.store(3, 9999);
        due.is("16: no years", x.held(0), 0);
        due.is("16: one year", x.held(1), 10);
        // 10 must be left behind the loss: of 11 one is lost, of 21 there were 11
        due.is("16: two years", x.held(2), 21);
        x.store(0, 21);
        due.is("16: enough", x.want(2), NONE);
        x.store(0, 20);
        due.is("16: one less is not", x.want(2), 1);
        x.family(0, 20, 0);
        x.family(0, 20, 0);
        x.family(0, 20, 0);
        x.family(0, 20, 0);
        due.is("16: more than can be", x.held(9), NONE);
        due.is("16: none is no refusal", x.status(0), 2);
        heldAtMost();
    }

    /** Ever more till 999 is what must be held, and one more. */
    private static void heldAtMost() {
        int[] mouths = {20, 20, 20, 20, 20};
        LongYear x = new LongYear();
        for (int m : mouths) x.family(0, m, 0);
        x.store(3, 9999);
        // from behind: 100; 111 and 100: 211; 234 and 100: 334; 371 and 100: 471; 523 and 100: 623; 692 and 100: 792
        int[] least = {0, 100, 211, 334, 471, 623, 792, 979};
        for (int n = 0; n < least.length; n++) due.is("16: " + n + " years", x.held(n), least[n]);
        due.is("16: a year more", x.held(8), NONE);
        x.year(70);
        for (int m : mouths) x.family(0, m, 0);
        x.family(0, 2, 0);
        x.store(3, 9999);
        // 102; 113 and 102: 215; 238 and 102: 340; 377 and 102: 479; 532 and 102: 634; 704 and 102: 806; 895 and 102: 997
        due.is("16: 997", x.held(7), 997);
        // mouths fewer year by year, as GAS is out
        due.is("16: 999", Due.told("year 70;store 3 10;family 0 17 0;").held(24), 999);
        due.is("16: 1000", Due.told("year 70;store 3 13;family 0 14 0;family 0 14 0;").held(25), NONE);
    }

    private static void chanceRefused() {
        LongYear x = new LongYear();
        due.is("17: too many years", x.chance(61, 0), BAD);
        due.is("17: too few", x.chance(-1, 0), BAD);
        due.is("17: p", x.chance(0, -1), BAD);
        due.is("17: p", x.chance(0, 11), BAD);
        due.is("17: the fraction stays", x.part(0), 0);
        due.is("17: sure", x.chance(60, 5), 1);
        due.is("17: all", x.part(0), 1);
        due.is("17: of all", x.part(1), 1);
        x.year(2);
        x.family(0, 1, 1);
        due.is("17: eight noons", x.chance(16, 5), 1);
        due.is("17: want", x.part(0), 0);
        due.is("17: below 1", x.part(1), 1);
        due.is("17: eight noons and a dusk", x.chance(17, 5), 1);
        due.is("17: nine noons", x.chance(18, 5), NO);
        due.is("17: bad ahead of no", x.chance(18, 11), BAD);
        x.pass(1);
        due.is("17: eight noons from one on", x.chance(16, 5), 1);
        due.is("17: nine from one on", x.chance(17, 5), NO);
        due.is("17: refused", x.status(1), 2);
    }

    /** From a NOON on: want in the second DUSK, if both NOONS were bad. */
    private static void chanceOfBoth() {
        LongYear x = new LongYear();
        x.year(2);
        x.pass(1);
        x.family(0, 8, 9);
        x.store(0, 6);
        x.store(1, 4);
        x.store(2, 9);
        x.store(3, 9);
        // 4 FIELDS: 6, 18, 9; 7 FIELDS: 36, or 3: 16. Bad, 2 FIELDS: 6, 8, 0; 6 FIELDS: 22, or 3: 7, which is 1 short
        due.is("17: two noons and a dusk", x.chance(3, 3), 1);
        due.is("17: are sure", x.part(0), 1);
        due.is("17: two noons and two dusks", x.chance(4, 3), 1);
        due.is("17: all but three of ten, twice", x.part(0), 91);
        due.is("17: of a hundred", x.part(1), 100);
        due.is("17: half", x.chance(4, 5), 1);
        due.is("17: three", x.part(0), 3);
        due.is("17: of four", x.part(1), 4);
    }

    private static void chanceOfTwoNoons() {
        LongYear x = new LongYear();
        x.year(2);
        x.pass(1);
        x.family(0, 8, 9);
        x.store(1, 3);
        x.store(2, 9);
        x.store(3, 9);
        // a NOON of 3 FIELDS, 15 less 8; of 1: 5, so that 3 lack
        due.is("17: one noon", x.chance(1, 4), 1);
        due.is("17: six of ten", x.part(0), 3);
        due.is("17: six of ten", x.part(1), 5);
        x.store(0, 3);
        due.is("17: with 3 there", x.chance(1, 4), 1);
        due.is("17: it is sure", x.part(0), 1);
        x.store(0, 0);
        due.is("17: never bad", x.chance(1, 0), 1);
        due.is("17: sure", x.part(0), 1);
        due.is("17: ever bad", x.chance(1, 10), 1);
        due.is("17: never", x.part(0), 0);
        due.is("17: below 1", x.part(1), 1);
        x.store(0, 4);
        // 4 and 15 less 8: 11, less 8 and a tenth: 3; then 6 FIELDS by 6 SEED: 33 less 8, or 3: 18 less 8.
        // bad: 4 and 5 less 8: 1: want in the DUSK
        due.is("17: two noons", x.chance(3, 4), 1);
        due.is("17: the first alone is in danger", x.part(0), 3);
        due.is("17: of five", x.part(1), 5);
    }

    private static void chanceHalvesCut() {
        LongYear x = new LongYear();
        x.year(2);
        x.pass(1);
        x.family(0, 5, 9);
        x.store(1, 3);
        x.store(2, 1);
        // half of 3 FIELDS, cut: 1, that is 5 GRAIN, just enough
        due.is("17: asked", x.chance(1, 10), 1);
        due.is("17: one field", x.part(0), 1);
        x.store(1, 1);
        due.is("17: asked", x.chance(1, 10), 1);
        due.is("17: no field", x.part(0), 0);
    }

    private static void teachers() {
        LongYear x = new LongYear();
        due.is("18: too many years", x.teachers(61), BAD);
        due.is("18: too few", x.teachers(-1), BAD);
        due.is("18: nobody", x.teachers(60), 0);
        x.family(0, 1, 1);
        x.family(4, 1, 3);
        x.family(4, 1, 3);
        x.family(1, 1, 2);
        due.is("18: all know now", x.teachers(0), 0);
        // in YEAR 0 taught up to 2, of which 1 is forgotten; ever so: one singer is enough, the first
        due.is("18: one", x.teachers(1), 2);
        due.is("18: for nine years", x.teachers(9), 2);
        due.is("18: noon makes all know", x.teachers(10), 0);
        x.family(0, 1, 0);
        due.is("18: one knows nothing", x.teachers(0), NONE);
        due.is("18: none is no refusal", x.status(0), 2);
    }

    private static void teachersAlone() {
        LongYear x = new LongYear();
        x.year(70);
        x.family(4, 1, 2);
        x.family(0, 1, 9);
        x.family(0, 1, 9);
        x.job(0, TEACH);
        // 1 to 0 for who is taught by 2; memory 9 of the second lasts 8 years, so nobody need teach
        due.is("18: who teaches else rests", x.teachers(8), 0);
        // a singer of 2 can not keep them: 1 is forgotten; taught by 9 she can, once taught herself
        due.is("18: two must", x.teachers(9), 3);
        x.job(0, TEND);
        due.is("18: the same", x.teachers(9), 3);
        due.is("18: jobs stay", x.about(0, 3), TEND);
        due.is("18: jobs stay", x.about(1, 3), 0);

        LongYear y = new LongYear();
        y.year(70);
        y.family(0, 1, 1);
        y.family(1, 1, 9);
        y.pass(1);
        // a sleeper rests in odd YEARS: 0 is 0 till YEAR 2
        due.is("18: she rests in YEAR 1", y.teachers(1), NONE);
        due.is("18: she teaches in YEAR 2", y.teachers(2), 2);
    }

    private static void trialsChangeNothing() {
        LongYear x = Due.told("year 4;store 0 300;store 1 9;store 2 9;store 3 9;"
            + "family 0 9 9;family 1 9 9;family 4 3 3;job 0 1;job 1 2;job 2 4;");
        x.pass(2);
        long before = x.digest();
        x.plan(5, NONE);
        x.plan(4, 2);
        x.want(200);
        x.held(200);
        x.teachers(60);
        x.fields();
        x.cleared();
        x.liars(0);
        x.lots(5, 3);
        x.meet(9, 3);
        due.is("14 to 18: all stays", x.digest(), before);
        x.chance(20, 5);
        due.is("17: but the fraction", x.digest() == before ? 1 : 0, 0);
        x.undo();
        due.is("14 to 18: what may be undone, too", x.count(12), 1);
    }
}

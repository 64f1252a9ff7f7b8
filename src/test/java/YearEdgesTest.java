/** Promises 9 to 13 where the document names an edge: each sentence on its own. */
public final class YearEdgesTest {
    private static final Due due = new Due("YearEdgesTest");
    private static final int NO = LongYear.NO, BAD = LongYear.BAD;
    private static final int REST = 0, TEACH = 1, MAKE = 2, TEND = 3, DIG = 4;
    private static final int GRAIN = 2, SEED = 3, TOOLS = 4, GAS = 5, WANTED = 10, COLDS = 11;

    public static void main(String[] args) {
        noonsOfTheShortest();
        noonsOfTheLongest();
        passLeastAndMost();
        workByKinds();
        whatIsMoreIsLost();
        whatIsMoreIsLostAtNoon();
        sleepersRestInOddYears();
        nobodyWorksAtNoon();
        teachingAtItsEdges();
        mealAtItsEdges();
        gasAtItsEdges();
        oneMouthStays();
        grainIsLostByATenth();
        seedIsLostByAnEighth();
        toolsAreWornByYear();
        nothingIsLostAtNoon();
        forgettingAtItsEdges();
        fieldsByEachBound();
        toolsByAThird();
        noonMeal();
        allKnowAgain();
        wantedAndColdsAreOfAllYears();
        sixAreUndone();
        undoneIsAllThat();
        sinceIsGoneOrStays();
        undoneAndGoneOn();
        halfCutUp();
        eatsAtItsEdges();
        eatsAsItIs();
        fieldsAreOfNow();
        due.end();
    }

    /** GAS that nobody needs tells the NOONS gone by. */
    private static void noonsOfTheShortest() {
        LongYear x = Lumps.shortYears(false);
        for (int y = 0; y < 9; y++) {
            due.is("9: GAS ahead of YEAR " + y, x.count(GAS), y / 2 * 10);
            due.is("9: YEARS have numbers from 0 on", x.count(1), y);
            x.pass(1);
        }
    }

    private static void noonsOfTheLongest() {
        LongYear x = new LongYear();
        x.year(70);
        x.pass(20);
        x.pass(20);
        x.pass(20);
        x.pass(9);
        due.is("9: YEAR 68 is DUSK", x.count(GAS), 0);
        x.pass(1);
        due.is("9: YEAR 69 is NOON", x.count(GAS), 10);
        for (int i = 0; i < 3; i++) x.pass(20);
        x.pass(9);
        due.is("9: YEARS 70 to 138 are DUSK", x.count(GAS), 10);
        x.pass(1);
        due.is("9: YEAR 139 is NOON", x.count(GAS), 20);
    }

    private static void passLeastAndMost() {
        LongYear x = Due.told("year 70;store 3 90;family 0 10 0;");
        due.is("9: one YEAR's WANT", x.pass(1), 10);
        due.is("9: twenty YEARS' WANT", x.pass(20), 200);
        due.is("9: the YEAR", x.count(1), 21);
        due.is("9: WANTED", x.count(WANTED), 210);
        x.store(0, 10);
        due.is("9: WANT in them alone", x.pass(1), 0);
        due.is("9: WANT in some of them", x.pass(2), 20);
    }

    /** One family that does a JOB in YEAR 0, a STORE being told. */
    private static LongYear afterOneYear(int kind, int job, int which, int n) {
        LongYear x = new LongYear();
        x.family(kind, 1, 0);
        x.job(0, job);
        x.store(which, n);
        x.pass(1);
        return x;
    }

    private static void workByKinds() {
        int[] makes = {1, 1, 1, 3, 1}, tends = {1, 1, 4, 1, 2};
        for (int kind = 0; kind < 5; kind++) {
            due.is("9: KIND " + kind + " MAKES", afterOneYear(kind, MAKE, 2, 0).count(TOOLS), makes[kind]);
            due.is("9: KIND " + kind + " TENDS", afterOneYear(kind, TEND, 1, 0).count(SEED), tends[kind]);
            due.is("9: KIND " + kind + " DIGS, one is used", afterOneYear(kind, DIG, 3, 0).count(GAS), 3 - 1);
            for (int job = REST; job <= DIG; job++) {
                LongYear x = afterOneYear(kind, job, 0, 99);
                due.is("9: TOOLS by MAKE alone", x.count(TOOLS), job == MAKE ? makes[kind] : 0);
                due.is("9: SEED by TEND alone", x.count(SEED), job == TEND ? tends[kind] : 0);
                due.is("9: GAS by DIG alone", x.count(GAS), job == DIG ? 2 : 0);
            }
        }
    }

    private static void whatIsMoreIsLost() {
        due.is("9: TOOLS 9999 just so", afterOneYear(3, MAKE, 2, 9996).count(TOOLS), 9999);
        due.is("9: TOOLS, one is lost", afterOneYear(3, MAKE, 2, 9997).count(TOOLS), 9999);
        due.is("9: TOOLS, all are lost", afterOneYear(3, MAKE, 2, 9999).count(TOOLS), 9999);
        // an eighth of 9998 is 1249, of 9999 too, of 10000 it would be 1250
        due.is("9: SEED 9998", afterOneYear(2, TEND, 1, 9994).count(SEED), 8749);
        due.is("9: SEED 9999 just so", afterOneYear(2, TEND, 1, 9995).count(SEED), 8750);
        due.is("9: SEED, three are lost", afterOneYear(2, TEND, 1, 9998).count(SEED), 8750);
        due.is("9: SEED, all are lost", afterOneYear(2, TEND, 1, 9999).count(SEED), 8750);
        // one GAS warms her
        due.is("9: GAS 9998", afterOneYear(0, DIG, 3, 9995).count(GAS), 9997);
        due.is("9: GAS 9999 just so", afterOneYear(0, DIG, 3, 9996).count(GAS), 9998);
        due.is("9: GAS, one is lost", afterOneYear(0, DIG, 3, 9997).count(GAS), 9998);
        due.is("9: GAS, all are lost", afterOneYear(0, DIG, 3, 9999).count(GAS), 9998);
    }

    /** A NOON of one field. */
    private static LongYear afterNoon(int grain, int seed, int tools, int gas) {
        LongYear x = Lumps.shortYears(true);
        x.family(0, 1, 1);
        Lumps.stores(x, grain, seed, tools, gas);
        x.pass(1);
        return x;
    }

    private static void whatIsMoreIsLostAtNoon() {
        due.is("9: GRAIN 9998, less 1 eaten", afterNoon(9993, 1, 1, 0).count(GRAIN), 9997);
        due.is("9: GRAIN 9999 just so", afterNoon(9994, 1, 1, 0).count(GRAIN), 9998);
        due.is("9: GRAIN, one is lost", afterNoon(9995, 1, 1, 0).count(GRAIN), 9998);
        due.is("9: GRAIN, all is lost", afterNoon(9999, 1, 1, 0).count(GRAIN), 9998);
        due.is("9: SEED 9999 just so", afterNoon(0, 9998, 1, 0).count(SEED), 9999);
        due.is("9: SEED is lost", afterNoon(0, 9999, 1, 0).count(SEED), 9999);
        due.is("9: GAS 9999 just so", afterNoon(0, 1, 1, 9989).count(GAS), 9999);
        due.is("9: GAS, one is lost", afterNoon(0, 1, 1, 9990).count(GAS), 9999);
        due.is("9: GAS, all is lost", afterNoon(0, 1, 1, 9999).count(GAS), 9999);
    }

    private static void sleepersRestInOddYears() {
        LongYear x = new LongYear();
        x.year(70);
        x.family(1, 1, 9);
        x.family(4, 1, 0);
        x.job(0, MAKE);
        for (int y = 0; y < 8; y++) {
            x.store(2, 5);
            x.pass(1);
            int worn = y == 4 ? 1 : 0;
            due.is("9: SLEEPERS MAKE in YEAR " + y, x.count(TOOLS), 5 - worn + (y % 2 == 0 ? 1 : 0));
        }
        sleepersRestAt(TEND, SEED, 1);
        sleepersRestAt(DIG, GAS, 2);
        LongYear taught = new LongYear();
        taught.pass(1);
        taught.family(1, 1, 9);
        taught.family(4, 1, 0);
        taught.job(0, TEACH);
        taught.pass(1);
        due.is("9: SLEEPERS do not TEACH in YEAR 1", taught.about(1, 2), 0);
        taught.pass(1);
        due.is("9: SLEEPERS TEACH in YEAR 2", taught.about(1, 2), 7);
    }

    private static void sleepersRestAt(int job, int what, int brought) {
        LongYear x = new LongYear();
        x.family(1, 1, 0);
        x.job(0, job);
        x.pass(1);
        due.is("9: in YEAR 0", x.count(what), brought);
        // the GAS of YEAR 0 is used up in YEAR 1
        x.pass(1);
        due.is("9: in YEAR 1", x.count(what), job == DIG ? brought - 1 : brought);
        x.pass(1);
        due.is("9: in YEAR 2", x.count(what), job == DIG ? brought - 1 + 2 : 2 * brought);
    }

    private static void nobodyWorksAtNoon() {
        for (int kind = 0; kind < 5; kind++) {
            for (int job = REST; job <= DIG; job++) {
                LongYear x = Lumps.shortYears(true);
                x.family(kind, 1, 0);
                x.job(0, job);
                x.store(0, 9);
                x.pass(1);
                due.is("9: no TOOLS at NOON", x.count(TOOLS), 0);
                due.is("9: no SEED at NOON", x.count(SEED), 0);
                due.is("9: 10 GAS and no more at NOON", x.count(GAS), 10);
                due.is("9: the JOB is kept", x.about(0, 3), job);
            }
        }
    }

    /** SINGERS that TEACH, and SINGERS that are taught, forget nothing. */
    private static int taughtBy(int hers, int mine) {
        LongYear x = new LongYear();
        x.family(4, 1, mine);
        x.family(4, 1, hers);
        x.job(1, TEACH);
        x.pass(1);
        due.is("9: her own stays", x.about(1, 2), hers);
        return x.about(0, 2);
    }

    private static void teachingAtItsEdges() {
        due.is("9: 0 less 1 is nothing to have", taughtBy(0, 0), 0);
        due.is("9: 1 less 1", taughtBy(1, 0), 0);
        due.is("9: 2 less 1", taughtBy(2, 0), 1);
        due.is("9: 9 less 1", taughtBy(9, 0), 8);
        due.is("9: one less than taught", taughtBy(9, 7), 8);
        due.is("9: as much as taught", taughtBy(9, 8), 8);
        due.is("9: more than taught", taughtBy(9, 9), 9);
        due.is("9: as much as she", taughtBy(5, 5), 5);
        LongYear alone = new LongYear();
        alone.family(4, 1, 9);
        alone.job(0, TEACH);
        alone.pass(1);
        due.is("9: nobody else", alone.about(0, 2), 9);
    }

    private static void mealAtItsEdges() {
        for (int grain : new int[] {0, 1, 29, 30, 31}) {
            LongYear x = Due.told("year 9;store 3 9;family 0 20 0;family 0 10 0;");
            x.store(0, grain);
            due.is("9: WANT with " + grain, x.pass(1), Math.max(0, 30 - grain));
            due.is("9: left of " + grain, x.count(GRAIN), Math.max(0, grain - 30));
            due.is("9: WANTED", x.count(WANTED), Math.max(0, 30 - grain));
        }
        LongYear nobody = new LongYear();
        due.is("9: nobody wants nothing", nobody.pass(20), 0);
    }

    private static void gasAtItsEdges() {
        for (int gas = 0; gas <= 4; gas++) {
            LongYear x = Due.told("year 9;store 0 99;family 0 5 0;family 0 5 0;family 0 5 0;");
            x.store(3, gas);
            x.pass(1);
            due.is("9: COLD with " + gas, x.count(COLDS), Math.max(0, 3 - gas));
            due.is("9: left of " + gas, x.count(GAS), Math.max(0, gas - 3));
            // in order: the last are COLD
            for (int f = 0; f < 3; f++) due.is("9: MOUTHS of " + f + " with " + gas, x.about(f, 1), f < gas ? 5 : 4);
        }
    }

    private static void oneMouthStays() {
        LongYear x = Due.told("year 70;family 0 1 0;family 1 2 0;family 2 20 0;");
        x.pass(1);
        due.is("9: 1 stays", x.about(0, 1), 1);
        due.is("9: of 2 one", x.about(1, 1), 1);
        due.is("9: of 20", x.about(2, 1), 19);
        due.is("9: COLD, all three", x.count(COLDS), 3);
        x.pass(20);
        due.is("9: 1 stays", x.about(0, 1), 1);
        due.is("9: 1 stays", x.about(1, 1), 1);
        due.is("9: 1 stays", x.about(2, 1), 1);
        due.is("9: COLD each YEAR", x.count(COLDS), 63);
    }

    private static int leftOf(int which, int n) {
        LongYear x = new LongYear();
        x.store(which, n);
        x.pass(1);
        return x.count(GRAIN + which);
    }

    private static void grainIsLostByATenth() {
        int[][] left = {{0, 0}, {1, 1}, {9, 9}, {10, 9}, {11, 10}, {19, 18}, {20, 18}, {99, 90}, {100, 90}, {9999, 9000}};
        for (int[] pair : left) due.is("9: GRAIN " + pair[0], leftOf(0, pair[0]), pair[1]);
        LongYear x = Due.told("year 9;store 0 19;store 3 9;family 0 9 0;");
        x.pass(1);
        due.is("9: a tenth of what is left by the meal", x.count(GRAIN), 9);
        LongYear none = Due.told("year 9;store 0 5;store 3 9;family 0 9 0;");
        none.pass(1);
        due.is("9: 0 at least", none.count(GRAIN), 0);
    }

    private static void seedIsLostByAnEighth() {
        int[][] left = {{0, 0}, {1, 1}, {7, 7}, {8, 7}, {9, 8}, {15, 14}, {16, 14}, {79, 70}, {80, 70}, {9999, 8750}};
        for (int[] pair : left) due.is("9: SEED " + pair[0], leftOf(1, pair[0]), pair[1]);
        due.is("9: GAS is not lost", leftOf(3, 9999), 9999);
        LongYear x = new LongYear();
        x.store(1, 7);
        x.family(0, 1, 0);
        x.job(0, TEND);
        x.pass(1);
        due.is("9: an eighth with what was TENDED", x.count(SEED), 7);
    }

    private static void toolsAreWornByYear() {
        for (int tools : new int[] {0, 1, 2, 9999}) {
            LongYear x = new LongYear();
            x.year(70);
            for (int y = 0; y < 20; y++) {
                x.store(2, tools);
                x.pass(1);
                due.is("9: TOOLS " + tools + " in YEAR " + y, x.count(TOOLS), y % 5 == 4 ? Math.max(0, tools - 1) : tools);
            }
        }
        // GRAIN and SEED are lost in every DUSK, not in YEAR 4 alone: see above, YEAR 0
        LongYear made = new LongYear();
        made.year(70);
        made.pass(4);
        made.family(0, 1, 0);
        made.job(0, MAKE);
        made.pass(1);
        due.is("9: made, then worn", made.count(TOOLS), 0);
    }

    private static void nothingIsLostAtNoon() {
        LongYear x = new LongYear();
        x.year(5);
        x.pass(4);
        Lumps.stores(x, 1000, 800, 7, 0);
        x.pass(1);
        due.is("9: GRAIN in the NOON of YEAR 4", x.count(GRAIN), 1000);
        due.is("9: SEED", x.count(SEED), 800);
        due.is("9: TOOLS", x.count(TOOLS), 7);
        x.pass(1);
        due.is("9: a tenth in YEAR 5", x.count(GRAIN), 900);
        due.is("9: an eighth", x.count(SEED), 700);
        due.is("9: TOOLS are not worn in it", x.count(TOOLS), 7);
    }

    private static void forgettingAtItsEdges() {
        for (int kind = 0; kind < 5; kind++) {
            for (int memory : new int[] {0, 1, 2, 9}) {
                LongYear x = new LongYear();
                x.family(kind, 1, memory);
                x.pass(1);
                due.is("9: KIND " + kind + " of MEMORY " + memory, x.about(0, 2), kind == 4 ? memory : Math.max(0, memory - 1));
            }
        }
    }

    /** One bound is n, the others are more. */
    private static void fieldsByEachBound() {
        for (int n : new int[] {0, 1, 5, 6, 7, 20}) {
            due.is("13: by SEED " + n, sown(n, 7, 20), n);
            due.is("13: by TOOLS " + n, sown(9999, n, 60), Math.min(60, 3 * n));
            if (n > 0) due.is("13: by MOUTHS " + n, sown(9999, 9999, n), n);
        }
        due.is("13: as many of each", sown(12, 4, 12), 12);
        due.is("13: one SEED less", sown(11, 4, 12), 11);
        due.is("13: one TOOL less", sown(12, 3, 12), 9);
        due.is("13: one MOUTH less", sown(12, 4, 11), 11);
        due.is("13: all that there can be", sown(9999, 9999, 120), 120);
        LongYear x = Due.told("year 2;store 1 99;store 2 99;family 0 7 0;family 4 8 1;family 1 9 9;");
        due.is("13: MEMORY above 0", x.fields(), 17);
        x.pass(1);
        due.is("13: who has forgotten is none of them, nor who was cold", x.fields(), 7 + 8);
        LongYear nobody = new LongYear();
        Lumps.stores(nobody, 0, 9999, 9999, 0);
        due.is("13: nobody", nobody.fields(), 0);
    }

    /** FIELDS of so many MOUTHS in at most six FAMILIES. */
    private static int sown(int seed, int tools, int mouths) {
        LongYear x = new LongYear();
        Lumps.stores(x, 0, seed, tools, 0);
        for (int left = mouths; left > 0; left -= 20) x.family(0, Math.min(20, left), 1);
        return x.fields();
    }

    private static void toolsByAThird() {
        int[] less = {0, 0, 0, 1, 1, 1, 2, 2, 2, 3};
        for (int fields = 0; fields < less.length; fields++) {
            LongYear x = Lumps.shortYears(true);
            x.family(0, 20, 9);
            Lumps.stores(x, 20, fields, 3, 0);
            due.is("13: FIELDS", x.fields(), fields);
            due.is("9: fed", x.pass(1), 0);
            due.is("9: GRAIN is 5 FIELDS more", x.count(GRAIN), 5 * fields);
            due.is("9: SEED is FIELDS more", x.count(SEED), 2 * fields);
            due.is("9: TOOLS are a third less, cut", x.count(TOOLS), 3 - less[fields]);
            due.is("9: GAS is 10 more", x.count(GAS), 10);
        }
    }

    private static void noonMeal() {
        int[] eaten = {11, 11, 11, 12, 11};
        for (int kind = 0; kind < 5; kind++) {
            LongYear x = Lumps.shortYears(true);
            x.family(kind, 11, 0);
            x.store(0, eaten[kind]);
            due.is("9: enough for KIND " + kind, x.pass(1), 0);
            due.is("9: none left", x.count(GRAIN), 0);
            LongYear less = Lumps.shortYears(true);
            less.family(kind, 11, 0);
            less.store(0, eaten[kind] - 1);
            due.is("9: one too few for KIND " + kind, less.pass(1), 1);
        }
        LongYear fed = Lumps.shortYears(true);
        fed.family(0, 5, 1);
        fed.store(1, 1);
        fed.store(2, 1);
        due.is("9: they eat of the harvest", fed.pass(1), 0);
        due.is("9: all of it", fed.count(GRAIN), 0);
    }

    private static void allKnowAgain() {
        LongYear x = Lumps.shortYears(true);
        for (int kind = 0; kind < 5; kind++) x.family(kind, 3, kind);
        x.family(4, 3, 9);
        x.pass(1);
        for (int f = 0; f < 6; f++) {
            due.is("9: MEMORY 9", x.about(f, 2), 9);
            due.is("9: nobody COLD at NOON", x.about(f, 1), 3);
        }
        due.is("9: COLDS", x.count(COLDS), 0);
        due.is("9: GAS warms nobody at NOON", x.count(GAS), 10);
    }

    private static void wantedAndColdsAreOfAllYears() {
        LongYear x = Due.told("year 3;family 0 4 0;family 0 1 0;");
        x.pass(1);
        due.is("9: WANTED 5", x.count(WANTED), 5);
        due.is("9: COLDS 2", x.count(COLDS), 2);
        x.pass(1);
        due.is("9: and 4", x.count(WANTED), 9);
        due.is("9: and 2", x.count(COLDS), 4);
        x.pass(1);
        due.is("9: and 3 at NOON", x.count(WANTED), 12);
        due.is("9: and none at NOON", x.count(COLDS), 4);
        x.pass(3);
        // GAS 10 is enough for both
        due.is("9: and 3 each YEAR", x.count(WANTED), 21);
        due.is("9: and none", x.count(COLDS), 4);
    }

    private static void sixAreUndone() {
        for (int years : new int[] {1, 5, 6, 7, 12, 20}) {
            LongYear x = new LongYear();
            x.pass(years);
            int most = Math.min(6, years);
            due.is("10: that may be undone of " + years, x.count(12), most);
            for (int i = 1; i <= most; i++) {
                due.is("10: undone", x.undo(), 1);
                due.is("10: the YEAR", x.count(1), years - i);
                due.is("10: that may be undone", x.count(12), most - i);
            }
            due.is("10: none may be", x.undo(), NO);
            due.is("10: the YEAR stays", x.count(1), years - most);
        }
    }

    private static void undoneIsAllThat() {
        LongYear x = Due.told("year 70;store 0 30;store 1 40;store 2 3;store 3 1;family 0 20 5;family 4 20 6;family 0 2 7;"
            + "job 0 4;job 1 3;job 2 2;");
        x.pass(1);
        int[] counts = new int[14];
        for (int what = 0; what <= 13; what++) counts[what] = x.count(what);
        int[] mouths = {x.about(0, 1), x.about(1, 1), x.about(2, 1)};
        int[] memory = {x.about(0, 2), x.about(1, 2), x.about(2, 2)};
        x.pass(1);
        for (int what : new int[] {1, SEED, TOOLS, WANTED}) due.holds("10: " + what + " changed", x.count(what) != counts[what]);
        x.pass(1);
        x.undo();
        due.is("10: undone", x.undo(), 1);
        for (int what = 0; what <= 13; what++) due.is("10: as ahead: " + what, x.count(what), counts[what]);
        for (int f = 0; f < 3; f++) {
            due.is("10: MOUTHS", x.about(f, 1), mouths[f]);
            due.is("10: MEMORY", x.about(f, 2), memory[f]);
        }
    }

    private static void sinceIsGoneOrStays() {
        LongYear x = Due.told("year 70;store 0 50;store 1 50;store 2 50;store 3 50;family 0 5 5;");
        x.pass(1);
        for (int which = 0; which < 4; which++) x.store(which, 7);
        x.family(3, 9, 8);
        x.job(0, DIG);
        x.rate(6);
        x.debt(0, 1, 9);
        x.report(1, 1, 1);
        x.word(1, 1, 1, 1, 1, 1);
        x.type('a');
        due.is("10: undone", x.undo(), 1);
        for (int which = 0; which < 4; which++) due.is("10: STORES told since are gone", x.count(2 + which), 50);
        due.is("10: a FAMILY that came since stays", x.count(6), 2);
        due.is("10: as it is", x.about(1, 0) * 1000 + x.about(1, 1) * 100 + x.about(1, 2) * 10 + x.about(1, 3), 3980);
        due.is("10: the JOB is not of that", x.about(0, 3), DIG);
        due.is("10: nor the RATE", x.rate(0), 6);
        due.is("10: nor DEBTS", x.count(7), 1);
        due.is("10: nor REPORTS", x.count(8), 1);
        due.is("10: nor WORDS", x.count(9), 1);
        due.is("10: nor Y", x.count(0), 70);
        due.is("10: STORES told ahead of it stay", x.store(0, 0), 50);
    }

    private static void undoneAndGoneOn() {
        LongYear x = Due.told("year 4;store 0 400;store 1 9;store 2 9;family 4 9 9;job 0 3;"), y =
            Due.told("year 4;store 0 400;store 1 9;store 2 9;family 4 9 9;job 0 3;");
        x.pass(5);
        for (int i = 0; i < 3; i++) x.undo();
        x.pass(7);
        y.pass(9);
        // six at most, whatever was undone ahead
        due.is("10: it goes on as if none had gone by", x.digest(), y.digest());
        for (int i = 0; i < 6; i++) {
            due.is("10: undone", x.undo() + y.undo(), 2);
            due.is("10: alike", x.digest(), y.digest());
        }
        due.is("10: no more", x.undo(), NO);
        x.pass(1);
        due.is("10: one", x.count(12), 1);
    }

    private static void halfCutUp() {
        int[][] half = {{1, 1}, {2, 1}, {3, 2}, {4, 2}, {19, 10}, {20, 10}};
        for (int[] pair : half) {
            LongYear x = new LongYear();
            x.family(1, pair[0], 0);
            due.is("12: half of " + pair[0], x.eats(0, 0), pair[1]);
            due.is("12: in odd YEARS, too", x.eats(0, 1), pair[1]);
            due.is("12: all at NOON", x.eats(0, 9), pair[0]);
            x.store(0, pair[1]);
            due.is("9: and so she eats", x.pass(1), 0);
            due.is("9: all of it", x.count(GRAIN), 0);
        }
    }

    private static void eatsAtItsEdges() {
        LongYear x = new LongYear();
        int[] kinds = {0, 1, 2, 3, 4, 3};
        for (int kind : kinds) x.family(kind, kind == 3 ? 20 : 1, 0);
        due.is("12: the first", x.eats(0, 0), 1);
        due.is("12: MAKERS eat 1 more", x.eats(3, 0), 21);
        due.is("12: and at NOON", x.eats(5, 9999), 21);
        due.is("12: SINGERS as FARMERS", x.eats(4, 9999), 1);
        x.year(2);
        x.family(1, 20, 0);
        due.is("12: YEAR 9998", x.eats(0, 9998), 10);
        due.is("12: YEAR 9999", x.eats(0, 9999), 20);
        due.is("12: YEAR 10000", x.eats(0, 10000), BAD);
    }

    private static void eatsAsItIs() {
        LongYear x = Due.told("year 70;family 0 9 0;");
        due.is("12: now", x.eats(0, 50), 9);
        x.pass(3);
        due.is("12: as it is, whatever the YEAR", x.eats(0, 0), 6);
        due.is("12: as it is, whatever the YEAR", x.eats(0, 9999), 6);
    }

    private static void fieldsAreOfNow() {
        LongYear x = Due.told("year 9;store 1 40;store 2 9;store 3 99;family 0 20 2;family 0 5 9;");
        due.is("13: were it NOON now", x.fields(), 25);
        x.pass(1);
        due.is("13: MEMORY 1", x.fields(), 25);
        x.pass(1);
        due.is("13: MEMORY 0", x.fields(), 5);
        x.pass(7);
        due.is("13: behind a NOON", x.fields(), 21);
    }
}

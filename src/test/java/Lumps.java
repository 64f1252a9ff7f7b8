/** Lumps in known states, each made anew by the same calls, so that two of them are alike. */
final class Lumps {
    /** 150 bytes. */
    static final String WHOLE_TEXT = "year 3;store 2 8;family 4 1 9;" + " ".repeat(120);

    private Lumps() {
    }

    /** Some of all: 3 families, 2 debts, reports and words, want, cold, 4 years to undo, image 0, THE FRACTION 3 by 5. */
    static LongYear rich() {
        LongYear x = new LongYear();
        threeByFive(x);
        x.year(6);
        stores(x, 300, 40, 5, 2);
        x.family(2, 9, 5);
        x.family(4, 8, 4);
        x.family(1, 7, 3);
        x.job(0, 3);
        x.job(1, 1);
        x.job(2, 2);
        x.debt(0, 1, 50);
        x.debt(2, 1, 7);
        x.rate(5);
        x.report(3, 1, 40);
        x.report(3, 2, 41);
        x.word(1, 2, 3, 4, 5, 6);
        x.word(6, 5, 4, 3, 2, 1);
        x.pass(2);
        x.store(0, 9);
        x.pass(1);
        x.store(0, 300);
        x.image(0);
        x.pass(1);
        Due.type(x, "year 4;store 1 5;family 0 2 3;");
        return x;
    }

    /** All that there can be: 6 families, 8 debts, 10 reports, 4 words, 150 bytes, 6 years to undo, both images. */
    static LongYear full() {
        LongYear x = new LongYear();
        threeByFive(x);
        x.year(9);
        stores(x, 9999, 9999, 9999, 9999);
        for (int f = 0; f < 6; f++) x.family(f % 5, 20 - f, 9 - f);
        for (int f = 0; f < 6; f++) x.job(f, f % 5);
        for (int d = 0; d < 8; d++) x.debt(d % 6, (d + 1) % 6, 990 + d);
        x.rate(50);
        for (int r = 0; r < 10; r++) x.report(90 + r / 2, r % 6, 9990 + r);
        for (int w = 0; w < 4; w++) x.word(25 - w, w, 25, 0, w, 25);
        x.pass(2);
        x.image(0);
        x.store(0, 0);
        x.store(3, 0);
        x.pass(1);
        x.store(0, 9999);
        x.store(3, 9999);
        x.pass(5);
        x.image(1);
        Due.type(x, WHOLE_TEXT);
        return x;
    }

    /** Nobody's lump of 2 YEARS, its NOON being now or in a YEAR. */
    static LongYear shortYears(boolean noonNow) {
        LongYear x = new LongYear();
        x.year(2);
        if (noonNow) x.pass(1);
        return x;
    }

    static void stores(LongYear x, int grain, int seed, int tools, int gas) {
        x.store(0, grain);
        x.store(1, seed);
        x.store(2, tools);
        x.store(3, gas);
    }

    /** A NOON of 3 FIELDS, 15 GRAIN for 8 mouths; a bad one has 5: no WANT in 6 of 10. */
    private static void threeByFive(LongYear x) {
        x.year(2);
        x.pass(1);
        x.family(0, 8, 9);
        stores(x, 0, 3, 9, 9);
        x.chance(1, 4);
    }
}
